theorem d_Model_readSegment_32 : decode c_Model_readSegment 32 = .ok (.getfield 89, 3) := by decide +kernel
theorem d_Model_readSegment_35 : decode c_Model_readSegment 35 = .ok (.ifCond .ge 59, 3) := by decide +kernel
theorem d_Model_readSegment_38 : decode c_Model_readSegment 38 = .ok (.aload_n 0, 1) := by decide +kernel
theorem d_Model_readSegment_39 : decode c_Model_readSegment 39 = .ok (.invokevirtual 92, 3) := by decide +kernel
theorem d_Model_readSegment_42 : decode c_Model_readSegment 42 = .ok (.aload_n 0, 1) := by decide +kernel
theorem d_Model_readSegment_43 : decode c_Model_readSegment 43 = .ok (.getfield 13, 3) := by decide +kernel
theorem d_Model_readSegment_46 : decode c_Model_readSegment 46 = .ok (.iconst 1, 1) := by decide +kernel
theorem d_Model_readSegment_47 : decode c_Model_readSegment 47 = .ok (.iaload, 1) := by decide +kernel
theorem d_Model_readSegment_48 : decode c_Model_readSegment 48 = .ok (.if_icmp .ne 46, 3) := by decide +kernel
theorem d_Model_readSegment_51 : decode c_Model_readSegment 51 = .ok (.aload_n 0, 1) := by decide +kernel
theorem d_Model_readSegment_52 : decode c_Model_readSegment 52 = .ok (.getfield 121, 3) := by decide +kernel
theorem d_Model_readSegment_55 : decode c_Model_readSegment 55 = .ok (.aload_n 0, 1) := by decide +kernel
theorem d_Model_readSegment_56 : decode c_Model_readSegment 56 = .ok (.getfield 19, 3) := by decide +kernel
theorem d_Model_readSegment_59 : decode c_Model_readSegment 59 = .ok (.aload_n 0, 1) := by decide +kernel
theorem d_Model_readSegment_60 : decode c_Model_readSegment 60 = .ok (.getfield 106, 3) := by decide +kernel
theorem d_Model_readSegment_63 : decode c_Model_readSegment 63 = .ok (.iaload, 1) := by decide +kernel
theorem d_Model_readSegment_64 : decode c_Model_readSegment 64 = .ok (.isub, 1) := by decide +kernel
theorem d_Model_readSegment_65 : decode c_Model_readSegment 65 = .ok (.bipush 20, 2) := by decide +kernel
theorem d_Model_readSegment_67 : decode c_Model_readSegment 67 = .ok (.if_icmp .ne 10, 3) := by decide +kernel
theorem d_Model_readSegment_70 : decode c_Model_readSegment 70 = .ok (.aload_n 0, 1) := by decide +kernel
theorem d_Model_readSegment_71 : decode c_Model_readSegment 71 = .ok (.invokevirtual 103, 3) := by decide +kernel
theorem d_Model_readSegment_74 : decode c_Model_readSegment 74 = .ok (.goto (-43), 3) := by decide +kernel
theorem d_Model_readSegment_77 : decode c_Model_readSegment 77 = .ok (.aload_n 0, 1) := by decide +kernel
theorem d_Model_readSegment_78 : decode c_Model_readSegment 78 = .ok (.dup, 1) := by decide +kernel
theorem d_Model_readSegment_79 : decode c_Model_readSegment 79 = .ok (.getfield 86, 3) := by decide +kernel
theorem d_Model_readSegment_82 : decode c_Model_readSegment 82 = .ok (.iconst 1, 1) := by decide +kernel
theorem d_Model_readSegment_83 : decode c_Model_readSegment 83 = .ok (.iadd, 1) := by decide +kernel
theorem d_Model_readSegment_84 : decode c_Model_readSegment 84 = .ok (.putfield 86, 3) := by decide +kernel
theorem d_Model_readSegment_87 : decode c_Model_readSegment 87 = .ok (.aload_n 0, 1) := by decide +kernel
theorem d_Model_readSegment_88 : decode c_Model_readSegment 88 = .ok (.invokevirtual 134, 3) := by decide +kernel
theorem d_Model_readSegment_91 : decode c_Model_readSegment 91 = .ok (.goto (-60), 3) := by decide +kernel
theorem d_Model_readSegment_94 : decode c_Model_readSegment 94 = .ok (.aload_n 0, 1) := by decide +kernel
theorem d_Model_readSegment_95 : decode c_Model_readSegment 95 = .ok (.getfield 89, 3) := by decide +kernel
theorem d_Model_readSegment_98 : decode c_Model_readSegment 98 = .ok (.ifCond .ge 20, 3) := by decide +kernel
theorem d_Model_readSegment_101 : decode c_Model_readSegment 101 = .ok (.aload_n 0, 1) := by decide +kernel
theorem d_Model_readSegment_102 : decode c_Model_readSegment 102 = .ok (.invokevirtual 92, 3) := by decide +kernel
theorem d_Model_readSegment_105 : decode c_Model_readSegment 105 = .ok (.aload_n 0, 1) := by decide +kernel
theorem d_Model_readSegment_106 : decode c_Model_readSegment 106 = .ok (.getfield 13, 3) := by decide +kernel
theorem d_Model_readSegment_109 : decode c_Model_readSegment 109 = .ok (.iconst 4, 1) := by decide +kernel
theorem d_Model_readSegment_110 : decode c_Model_readSegment 110 = .ok (.iaload, 1) := by decide +kernel
theorem d_Model_readSegment_111 : decode c_Model_readSegment 111 = .ok (.if_icmp .eq 7, 3) := by decide +kernel
theorem d_Model_readSegment_114 : decode c_Model_readSegment 114 = .ok (.aload_n 0, 1) := by decide +kernel
theorem d_Model_readSegment_115 : decode c_Model_readSegment 115 = .ok (.invokevirtual 103, 3) := by decide +kernel
theorem d_Model_readSegment_118 : decode c_Model_readSegment 118 = .ok (.aload_n 0, 1) := by decide +kernel
theorem d_Model_readSegment_119 : decode c_Model_readSegment 119 = .ok (.dup, 1) := by decide +kernel
theorem d_Model_readSegment_120 : decode c_Model_readSegment 120 = .ok (.getfield 86, 3) := by decide +kernel
theorem d_Model_readSegment_123 : decode c_Model_readSegment 123 = .ok (.iconst 1, 1) := by decide +kernel
theorem d_Model_readSegment_124 : decode c_Model_readSegment 124 = .ok (.iadd, 1) := by decide +kernel
theorem d_Model_readSegment_125 : decode c_Model_readSegment 125 = .ok (.putfield 86, 3) := by decide +kernel
theorem d_Model_readSegment_128 : decode c_Model_readSegment 128 = .ok (.aload_n 0, 1) := by decide +kernel
theorem d_Model_readSegment_129 : decode c_Model_readSegment 129 = .ok (.dup, 1) := by decide +kernel
theorem d_Model_readSegment_130 : decode c_Model_readSegment 130 = .ok (.getfield 106, 3) := by decide +kernel
theorem d_Model_readSegment_133 : decode c_Model_readSegment 133 = .ok (.iconst 1, 1) := by decide +kernel
theorem d_Model_readSegment_134 : decode c_Model_readSegment 134 = .ok (.iadd, 1) := by decide +kernel
theorem d_Model_readSegment_135 : decode c_Model_readSegment 135 = .ok (.putfield 106, 3) := by decide +kernel
theorem d_Model_readSegment_138 : decode c_Model_readSegment 138 = .ok (.return_, 1) := by decide +kernel
theorem d_Model_read_0 : decode c_Model_read 0 = .ok (.aload_n 0, 1) := by decide +kernel
theorem d_Model_read_1 : decode c_Model_read 1 = .ok (.iconst 0, 1) := by decide +kernel
theorem d_Model_read_2 : decode c_Model_read 2 = .ok (.putfield 80, 3) := by decide +kernel
theorem d_Model_read_5 : decode c_Model_read 5 = .ok (.aload_n 0, 1) := by decide +kernel
theorem d_Model_read_6 : decode c_Model_read 6 = .ok (.invokevirtual 77, 3) := by decide +kernel
theorem d_Model_read_9 : decode c_Model_read 9 = .ok (.aload_n 0, 1) := by decide +kernel
theorem d_Model_read_10 : decode c_Model_read 10 = .ok (.iconst 0, 1) := by decide +kernel
theorem d_Model_read_11 : decode c_Model_read 11 = .ok (.putfield 86, 3) := by decide +kernel
theorem d_Model_read_14 : decode c_Model_read 14 = .ok (.aload_n 0, 1) := by decide +kernel
theorem d_Model_read_15 : decode c_Model_read 15 = .ok (.iconst (-1), 1) := by decide +kernel
theorem d_Model_read_16 : decode c_Model_read 16 = .ok (.putfield 89, 3) := by decide +kernel
theorem d_Model_read_19 : decode c_Model_read 19 = .ok (.aload_n 0, 1) := by decide +kernel
theorem d_Model_read_20 : decode c_Model_read 20 = .ok (.iconst 0, 1) := by decide +kernel
theorem d_Model_read_21 : decode c_Model_read 21 = .ok (.putfield 106, 3) := by decide +kernel
theorem d_Model_read_24 : decode c_Model_read 24 = .ok (.aload_n 0, 1) := by decide +kernel
theorem d_Model_read_25 : decode c_Model_read 25 = .ok (.iconst 0, 1) := by decide +kernel
theorem d_Model_read_26 : decode c_Model_read 26 = .ok (.putfield 121, 3) := by decide +kernel
theorem d_Model_read_29 : decode c_Model_read 29 = .ok (.aload_n 0, 1) := by decide +kernel
theorem d_Model_read_30 : decode c_Model_read 30 = .ok (.iconst 0, 1) := by decide +kernel
theorem d_Model_read_31 : decode c_Model_read 31 = .ok (.putfield 115, 3) := by decide +kernel
theorem d_Model_read_34 : decode c_Model_read 34 = .ok (.aload_n 0, 1) := by decide +kernel
theorem d_Model_read_35 : decode c_Model_read 35 = .ok (.iconst 0, 1) := by decide +kernel
theorem d_Model_read_36 : decode c_Model_read 36 = .ok (.putfield 109, 3) := by decide +kernel
theorem d_Model_read_39 : decode c_Model_read 39 = .ok (.aload_n 0, 1) := by decide +kernel
theorem d_Model_read_40 : decode c_Model_read 40 = .ok (.iconst 0, 1) := by decide +kernel
theorem d_Model_read_41 : decode c_Model_read 41 = .ok (.putfield 112, 3) := by decide +kernel
theorem d_Model_read_44 : decode c_Model_read 44 = .ok (.aload_n 0, 1) := by decide +kernel
theorem d_Model_read_45 : decode c_Model_read 45 = .ok (.iconst (-1), 1) := by decide +kernel
theorem d_Model_read_46 : decode c_Model_read 46 = .ok (.putfield 49, 3) := by decide +kernel
theorem d_Model_read_49 : decode c_Model_read 49 = .ok (.aload_n 0, 1) := by decide +kernel
theorem d_Model_read_50 : decode c_Model_read 50 = .ok (.iconst (-1), 1) := by decide +kernel
theorem d_Model_read_51 : decode c_Model_read 51 = .ok (.putfield 53, 3) := by decide +kernel
theorem d_Model_read_54 : decode c_Model_read 54 = .ok (.aload_n 0, 1) := by decide +kernel
theorem d_Model_read_55 : decode c_Model_read 55 = .ok (.iconst (-1), 1) := by decide +kernel
theorem d_Model_read_56 : decode c_Model_read 56 = .ok (.putfield 56, 3) := by decide +kernel
theorem d_Model_read_59 : decode c_Model_read 59 = .ok (.aload_n 0, 1) := by decide +kernel
theorem d_Model_read_60 : decode c_Model_read 60 = .ok (.invokevirtual 137, 3) := by decide +kernel
theorem d_Model_read_63 : decode c_Model_read 63 = .ok (.ifCond .eq 12, 3) := by decide +kernel
theorem d_Model_read_66 : decode c_Model_read 66 = .ok (.aload_n 0, 1) := by decide +kernel
theorem d_Model_read_67 : decode c_Model_read 67 = .ok (.iconst 3, 1) := by decide +kernel
theorem d_Model_read_68 : decode c_Model_read 68 = .ok (.putfield 86, 3) := by decide +kernel
theorem d_Model_read_71 : decode c_Model_read 71 = .ok (.aload_n 0, 1) := by decide +kernel
theorem d_Model_read_72 : decode c_Model_read 72 = .ok (.invokevirtual 141, 3) := by decide +kernel
theorem d_Model_read_75 : decode c_Model_read 75 = .ok (.iconst 1, 1) := by decide +kernel
theorem d_Model_read_76 : decode c_Model_read 76 = .ok (.istore_n 1, 1) := by decide +kernel
theorem d_Model_read_77 : decode c_Model_read 77 = .ok (.aload_n 0, 1) := by decide +kernel
theorem d_Model_read_78 : decode c_Model_read 78 = .ok (.getfield 89, 3) := by decide +kernel
theorem d_Model_read_81 : decode c_Model_read 81 = .ok (.ifCond .ge 31, 3) := by decide +kernel
theorem d_Model_read_84 : decode c_Model_read 84 = .ok (.iload_n 1, 1) := by decide +kernel
theorem d_Model_read_85 : decode c_Model_read 85 = .ok (.ifCond .eq 27, 3) := by decide +kernel
theorem d_Model_read_88 : decode c_Model_read 88 = .ok (.aload_n 0, 1) := by decide +kernel
theorem d_Model_read_89 : decode c_Model_read 89 = .ok (.invokevirtual 144, 3) := by decide +kernel
theorem d_Model_read_92 : decode c_Model_read 92 = .ok (.aload_n 0, 1) := by decide +kernel
theorem d_Model_read_93 : decode c_Model_read 93 = .ok (.getfield 86, 3) := by decide +kernel
theorem d_Model_read_96 : decode c_Model_read 96 = .ok (.aload_n 0, 1) := by decide +kernel
theorem d_Model_read_97 : decode c_Model_read 97 = .ok (.getfield 83, 3) := by decide +kernel
theorem d_Model_read_100 : decode c_Model_read 100 = .ok (.if_icmp .ge 7, 3) := by decide +kernel
theorem d_Model_read_103 : decode c_Model_read 103 = .ok (.iconst 1, 1) := by decide +kernel
theorem d_Model_read_104 : decode c_Model_read 104 = .ok (.goto 4, 3) := by decide +kernel
theorem d_Model_read_107 : decode c_Model_read 107 = .ok (.iconst 0, 1) := by decide +kernel
theorem d_Model_read_108 : decode c_Model_read 108 = .ok (.istore_n 1, 1) := by decide +kernel
theorem d_Model_read_109 : decode c_Model_read 109 = .ok (.goto (-32), 3) := by decide +kernel
theorem d_Model_read_112 : decode c_Model_read 112 = .ok (.aload_n 0, 1) := by decide +kernel
theorem d_Model_read_113 : decode c_Model_read 113 = .ok (.iconst 0, 1) := by decide +kernel
theorem d_Model_read_114 : decode c_Model_read 114 = .ok (.putfield 83, 3) := by decide +kernel
theorem d_Model_read_117 : decode c_Model_read 117 = .ok (.aload_n 0, 1) := by decide +kernel
theorem d_Model_read_118 : decode c_Model_read 118 = .ok (.aload_n 0, 1) := by decide +kernel
theorem d_Model_read_119 : decode c_Model_read 119 = .ok (.getfield 89, 3) := by decide +kernel
theorem d_Model_read_122 : decode c_Model_read 122 = .ok (.ifCond .ge 7, 3) := by decide +kernel
theorem d_Model_read_125 : decode c_Model_read 125 = .ok (.iconst 1, 1) := by decide +kernel
theorem d_Model_read_126 : decode c_Model_read 126 = .ok (.goto 4, 3) := by decide +kernel
theorem d_Model_read_129 : decode c_Model_read 129 = .ok (.iconst 0, 1) := by decide +kernel
theorem d_Model_read_130 : decode c_Model_read 130 = .ok (.putfield 147, 3) := by decide +kernel
theorem d_Model_read_133 : decode c_Model_read 133 = .ok (.aload_n 0, 1) := by decide +kernel
theorem d_Model_read_134 : decode c_Model_read 134 = .ok (.getfield 147, 3) := by decide +kernel
theorem d_Model_read_137 : decode c_Model_read 137 = .ok (.ifCond .ne 19, 3) := by decide +kernel
theorem d_Model_read_140 : decode c_Model_read 140 = .ok (.aload_n 0, 1) := by decide +kernel
theorem d_Model_read_141 : decode c_Model_read 141 = .ok (.invokevirtual 77, 3) := by decide +kernel
theorem d_Model_read_144 : decode c_Model_read 144 = .ok (.aload_n 0, 1) := by decide +kernel
theorem d_Model_read_145 : decode c_Model_read 145 = .ok (.iconst 0, 1) := by decide +kernel
theorem d_Model_read_146 : decode c_Model_read 146 = .ok (.putfield 106, 3) := by decide +kernel
theorem d_Model_read_149 : decode c_Model_read 149 = .ok (.iconst (-1), 1) := by decide +kernel
theorem d_Model_read_150 : decode c_Model_read 150 = .ok (.aload_n 0, 1) := by decide +kernel
theorem d_Model_read_151 : decode c_Model_read 151 = .ok (.getfield 89, 3) := by decide +kernel
theorem d_Model_read_154 : decode c_Model_read 154 = .ok (.isub, 1) := by decide +kernel
theorem d_Model_read_155 : decode c_Model_read 155 = .ok (.ireturn, 1) := by decide +kernel
theorem d_Model_read_156 : decode c_Model_read 156 = .ok (.aload_n 0, 1) := by decide +kernel
theorem d_Model_read_157 : decode c_Model_read 157 = .ok (.getfield 19, 3) := by decide +kernel
theorem d_Model_read_160 : decode c_Model_read 160 = .ok (.aload_n 0, 1) := by decide +kernel
theorem d_Model_read_161 : decode c_Model_read 161 = .ok (.getfield 106, 3) := by decide +kernel
theorem d_Model_read_164 : decode c_Model_read 164 = .ok (.aload_n 0, 1) := by decide +kernel
theorem d_Model_read_165 : decode c_Model_read 165 = .ok (.getfield 121, 3) := by decide +kernel
theorem d_Model_read_168 : decode c_Model_read 168 = .ok (.iastore, 1) := by decide +kernel
theorem d_Model_read_169 : decode c_Model_read 169 = .ok (.aload_n 0, 1) := by decide +kernel
theorem d_Model_read_170 : decode c_Model_read 170 = .ok (.getfield 22, 3) := by decide +kernel
theorem d_Model_read_173 : decode c_Model_read 173 = .ok (.aload_n 0, 1) := by decide +kernel
theorem d_Model_read_174 : decode c_Model_read 174 = .ok (.getfield 121, 3) := by decide +kernel
theorem d_Model_read_177 : decode c_Model_read 177 = .ok (.aload_n 0, 1) := by decide +kernel
theorem d_Model_read_178 : decode c_Model_read 178 = .ok (.getfield 115, 3) := by decide +kernel
theorem d_Model_read_181 : decode c_Model_read 181 = .ok (.iastore, 1) := by decide +kernel
theorem d_Model_read_182 : decode c_Model_read 182 = .ok (.aload_n 0, 1) := by decide +kernel
theorem d_Model_read_183 : decode c_Model_read 183 = .ok (.getfield 25, 3) := by decide +kernel
theorem d_Model_read_186 : decode c_Model_read 186 = .ok (.aload_n 0, 1) := by decide +kernel
theorem d_Model_read_187 : decode c_Model_read 187 = .ok (.getfield 115, 3) := by decide +kernel
theorem d_Model_read_190 : decode c_Model_read 190 = .ok (.aload_n 0, 1) := by decide +kernel
theorem d_Model_read_191 : decode c_Model_read 191 = .ok (.getfield 109, 3) := by decide +kernel
theorem d_Model_read_194 : decode c_Model_read 194 = .ok (.iastore, 1) := by decide +kernel
theorem d_Model_read_195 : decode c_Model_read 195 = .ok (.aload_n 0, 1) := by decide +kernel
theorem d_Model_read_196 : decode c_Model_read 196 = .ok (.getfield 28, 3) := by decide +kernel
theorem d_Model_read_199 : decode c_Model_read 199 = .ok (.aload_n 0, 1) := by decide +kernel
theorem d_Model_read_200 : decode c_Model_read 200 = .ok (.getfield 109, 3) := by decide +kernel
theorem d_Model_read_203 : decode c_Model_read 203 = .ok (.aload_n 0, 1) := by decide +kernel
theorem d_Model_read_204 : decode c_Model_read 204 = .ok (.getfield 112, 3) := by decide +kernel
theorem d_Model_read_207 : decode c_Model_read 207 = .ok (.iastore, 1) := by decide +kernel
theorem d_Model_read_208 : decode c_Model_read 208 = .ok (.iconst 0, 1) := by decide +kernel
theorem d_Model_read_209 : decode c_Model_read 209 = .ok (.istore_n 2, 1) := by decide +kernel
theorem d_Model_read_210 : decode c_Model_read 210 = .ok (.iload_n 2, 1) := by decide +kernel
theorem d_Model_read_211 : decode c_Model_read 211 = .ok (.aload_n 0, 1) := by decide +kernel
theorem d_Model_read_212 : decode c_Model_read 212 = .ok (.getfield 106, 3) := by decide +kernel
theorem d_Model_read_215 : decode c_Model_read 215 = .ok (.if_icmp .ge 14, 3) := by decide +kernel
theorem d_Model_read_218 : decode c_Model_read 218 = .ok (.aload_n 0, 1) := by decide +kernel
theorem d_Model_read_219 : decode c_Model_read 219 = .ok (.iload_n 2, 1) := by decide +kernel
theorem d_Model_read_220 : decode c_Model_read 220 = .ok (.invokevirtual 151, 3) := by decide +kernel
theorem d_Model_read_223 : decode c_Model_read 223 = .ok (.iinc 2 1, 3) := by decide +kernel
theorem d_Model_read_226 : decode c_Model_read 226 = .ok (.goto (-16), 3) := by decide +kernel
theorem d_Model_read_229 : decode c_Model_read 229 = .ok (.aload_n 0, 1) := by decide +kernel
theorem d_Model_read_230 : decode c_Model_read 230 = .ok (.getfield 106, 3) := by decide +kernel
theorem d_Model_read_233 : decode c_Model_read 233 = .ok (.ireturn, 1) := by decide +kernel
theorem d_Model_forget_0 : decode c_Model_forget 0 = .ok (.aload_n 0, 1) := by decide +kernel
theorem d_Model_forget_1 : decode c_Model_forget 1 = .ok (.getfield 59, 3) := by decide +kernel
theorem d_Model_forget_4 : decode c_Model_forget 4 = .ok (.iload_n 1, 1) := by decide +kernel
theorem d_Model_forget_5 : decode c_Model_forget 5 = .ok (.iconst (-1), 1) := by decide +kernel
theorem d_Model_forget_6 : decode c_Model_forget 6 = .ok (.iastore, 1) := by decide +kernel
theorem d_Model_forget_7 : decode c_Model_forget 7 = .ok (.aload_n 0, 1) := by decide +kernel
theorem d_Model_forget_8 : decode c_Model_forget 8 = .ok (.getfield 62, 3) := by decide +kernel
theorem d_Model_forget_11 : decode c_Model_forget 11 = .ok (.iload_n 1, 1) := by decide +kernel
theorem d_Model_forget_12 : decode c_Model_forget 12 = .ok (.iconst (-1), 1) := by decide +kernel
theorem d_Model_forget_13 : decode c_Model_forget 13 = .ok (.iastore, 1) := by decide +kernel
theorem d_Model_forget_14 : decode c_Model_forget 14 = .ok (.return_, 1) := by decide +kernel
theorem d_Model_isSegment_0 : decode c_Model_isSegment 0 = .ok (.iload_n 1, 1) := by decide +kernel
theorem d_Model_isSegment_1 : decode c_Model_isSegment 1 = .ok (.ifCond .lt 15, 3) := by decide +kernel
theorem d_Model_isSegment_4 : decode c_Model_isSegment 4 = .ok (.iload_n 1, 1) := by decide +kernel
theorem d_Model_isSegment_5 : decode c_Model_isSegment 5 = .ok (.aload_n 0, 1) := by decide +kernel
theorem d_Model_isSegment_6 : decode c_Model_isSegment 6 = .ok (.getfield 106, 3) := by decide +kernel
theorem d_Model_isSegment_9 : decode c_Model_isSegment 9 = .ok (.if_icmp .ge 7, 3) := by decide +kernel
theorem d_Model_isSegment_12 : decode c_Model_isSegment 12 = .ok (.iconst 1, 1) := by decide +kernel
theorem d_Model_isSegment_13 : decode c_Model_isSegment 13 = .ok (.goto 4, 3) := by decide +kernel
theorem d_Model_isSegment_16 : decode c_Model_isSegment 16 = .ok (.iconst 0, 1) := by decide +kernel
theorem d_Model_isSegment_17 : decode c_Model_isSegment 17 = .ok (.ireturn, 1) := by decide +kernel
theorem d_Model_elementsOf_0 : decode c_Model_elementsOf 0 = .ok (.aload_n 0, 1) := by decide +kernel
theorem d_Model_elementsOf_1 : decode c_Model_elementsOf 1 = .ok (.getfield 19, 3) := by decide +kernel
theorem d_Model_elementsOf_4 : decode c_Model_elementsOf 4 = .ok (.iload_n 1, 1) := by decide +kernel
theorem d_Model_elementsOf_5 : decode c_Model_elementsOf 5 = .ok (.iconst 1, 1) := by decide +kernel
theorem d_Model_elementsOf_6 : decode c_Model_elementsOf 6 = .ok (.iadd, 1) := by decide +kernel
theorem d_Model_elementsOf_7 : decode c_Model_elementsOf 7 = .ok (.iaload, 1) := by decide +kernel
theorem d_Model_elementsOf_8 : decode c_Model_elementsOf 8 = .ok (.aload_n 0, 1) := by decide +kernel
theorem d_Model_elementsOf_9 : decode c_Model_elementsOf 9 = .ok (.getfield 19, 3) := by decide +kernel
theorem d_Model_elementsOf_12 : decode c_Model_elementsOf 12 = .ok (.iload_n 1, 1) := by decide +kernel
theorem d_Model_elementsOf_13 : decode c_Model_elementsOf 13 = .ok (.iaload, 1) := by decide +kernel
theorem d_Model_elementsOf_14 : decode c_Model_elementsOf 14 = .ok (.isub, 1) := by decide +kernel
theorem d_Model_elementsOf_15 : decode c_Model_elementsOf 15 = .ok (.ireturn, 1) := by decide +kernel
theorem d_Model_repeatsOf_0 : decode c_Model_repeatsOf 0 = .ok (.iload_n 2, 1) := by decide +kernel
theorem d_Model_repeatsOf_1 : decode c_Model_repeatsOf 1 = .ok (.ifCond .lt 12, 3) := by decide +kernel
theorem d_Model_repeatsOf_4 : decode c_Model_repeatsOf 4 = .ok (.iload_n 2, 1) := by decide +kernel
theorem d_Model_repeatsOf_5 : decode c_Model_repeatsOf 5 = .ok (.aload_n 0, 1) := by decide +kernel
theorem d_Model_repeatsOf_6 : decode c_Model_repeatsOf 6 = .ok (.iload_n 1, 1) := by decide +kernel
theorem d_Model_repeatsOf_7 : decode c_Model_repeatsOf 7 = .ok (.invokevirtual 154, 3) := by decide +kernel
theorem d_Model_repeatsOf_10 : decode c_Model_repeatsOf 10 = .ok (.if_icmp .lt 5, 3) := by decide +kernel
theorem d_Model_repeatsOf_13 : decode c_Model_repeatsOf 13 = .ok (.iconst 0, 1) := by decide +kernel
theorem d_Model_repeatsOf_14 : decode c_Model_repeatsOf 14 = .ok (.ireturn, 1) := by decide +kernel
theorem d_Model_repeatsOf_15 : decode c_Model_repeatsOf 15 = .ok (.aload_n 0, 1) := by decide +kernel
theorem d_Model_repeatsOf_16 : decode c_Model_repeatsOf 16 = .ok (.getfield 19, 3) := by decide +kernel
theorem d_Model_repeatsOf_19 : decode c_Model_repeatsOf 19 = .ok (.iload_n 1, 1) := by decide +kernel
theorem d_Model_repeatsOf_20 : decode c_Model_repeatsOf 20 = .ok (.iaload, 1) := by decide +kernel
theorem d_Model_repeatsOf_21 : decode c_Model_repeatsOf 21 = .ok (.iload_n 2, 1) := by decide +kernel
theorem d_Model_repeatsOf_22 : decode c_Model_repeatsOf 22 = .ok (.iadd, 1) := by decide +kernel
theorem d_Model_repeatsOf_23 : decode c_Model_repeatsOf 23 = .ok (.istore_n 3, 1) := by decide +kernel
theorem d_Model_repeatsOf_24 : decode c_Model_repeatsOf 24 = .ok (.aload_n 0, 1) := by decide +kernel
theorem d_Model_repeatsOf_25 : decode c_Model_repeatsOf 25 = .ok (.getfield 22, 3) := by decide +kernel
theorem d_Model_repeatsOf_28 : decode c_Model_repeatsOf 28 = .ok (.iload_n 3, 1) := by decide +kernel
theorem d_Model_repeatsOf_29 : decode c_Model_repeatsOf 29 = .ok (.iconst 1, 1) := by decide +kernel
theorem d_Model_repeatsOf_30 : decode c_Model_repeatsOf 30 = .ok (.iadd, 1) := by decide +kernel
theorem d_Model_repeatsOf_31 : decode c_Model_repeatsOf 31 = .ok (.iaload, 1) := by decide +kernel
theorem d_Model_repeatsOf_32 : decode c_Model_repeatsOf 32 = .ok (.aload_n 0, 1) := by decide +kernel
theorem d_Model_repeatsOf_33 : decode c_Model_repeatsOf 33 = .ok (.getfield 22, 3) := by decide +kernel
theorem d_Model_repeatsOf_36 : decode c_Model_repeatsOf 36 = .ok (.iload_n 3, 1) := by decide +kernel
theorem d_Model_repeatsOf_37 : decode c_Model_repeatsOf 37 = .ok (.iaload, 1) := by decide +kernel
theorem d_Model_repeatsOf_38 : decode c_Model_repeatsOf 38 = .ok (.isub, 1) := by decide +kernel
theorem d_Model_repeatsOf_39 : decode c_Model_repeatsOf 39 = .ok (.ireturn, 1) := by decide +kernel
theorem d_Model_componentsOf_0 : decode c_Model_componentsOf 0 = .ok (.iload_n 3, 1) := by decide +kernel
theorem d_Model_componentsOf_1 : decode c_Model_componentsOf 1 = .ok (.ifCond .lt 13, 3) := by decide +kernel
theorem d_Model_componentsOf_4 : decode c_Model_componentsOf 4 = .ok (.iload_n 3, 1) := by decide +kernel
theorem d_Model_componentsOf_5 : decode c_Model_componentsOf 5 = .ok (.aload_n 0, 1) := by decide +kernel
theorem d_Model_componentsOf_6 : decode c_Model_componentsOf 6 = .ok (.iload_n 1, 1) := by decide +kernel
theorem d_Model_componentsOf_7 : decode c_Model_componentsOf 7 = .ok (.iload_n 2, 1) := by decide +kernel
theorem d_Model_componentsOf_8 : decode c_Model_componentsOf 8 = .ok (.invokevirtual 158, 3) := by decide +kernel
theorem d_Model_componentsOf_11 : decode c_Model_componentsOf 11 = .ok (.if_icmp .lt 5, 3) := by decide +kernel
theorem d_Model_componentsOf_14 : decode c_Model_componentsOf 14 = .ok (.iconst 0, 1) := by decide +kernel
theorem d_Model_componentsOf_15 : decode c_Model_componentsOf 15 = .ok (.ireturn, 1) := by decide +kernel
theorem d_Model_componentsOf_16 : decode c_Model_componentsOf 16 = .ok (.aload_n 0, 1) := by decide +kernel
theorem d_Model_componentsOf_17 : decode c_Model_componentsOf 17 = .ok (.getfield 22, 3) := by decide +kernel
theorem d_Model_componentsOf_20 : decode c_Model_componentsOf 20 = .ok (.aload_n 0, 1) := by decide +kernel
theorem d_Model_componentsOf_21 : decode c_Model_componentsOf 21 = .ok (.getfield 19, 3) := by decide +kernel
theorem d_Model_componentsOf_24 : decode c_Model_componentsOf 24 = .ok (.iload_n 1, 1) := by decide +kernel
theorem d_Model_componentsOf_25 : decode c_Model_componentsOf 25 = .ok (.iaload, 1) := by decide +kernel
theorem d_Model_componentsOf_26 : decode c_Model_componentsOf 26 = .ok (.iload_n 2, 1) := by decide +kernel
theorem d_Model_componentsOf_27 : decode c_Model_componentsOf 27 = .ok (.iadd, 1) := by decide +kernel
theorem d_Model_componentsOf_28 : decode c_Model_componentsOf 28 = .ok (.iaload, 1) := by decide +kernel
theorem d_Model_componentsOf_29 : decode c_Model_componentsOf 29 = .ok (.iload_n 3, 1) := by decide +kernel
theorem d_Model_componentsOf_30 : decode c_Model_componentsOf 30 = .ok (.iadd, 1) := by decide +kernel
theorem d_Model_componentsOf_31 : decode c_Model_componentsOf 31 = .ok (.istore 4, 2) := by decide +kernel
theorem d_Model_componentsOf_33 : decode c_Model_componentsOf 33 = .ok (.aload_n 0, 1) := by decide +kernel
theorem d_Model_componentsOf_34 : decode c_Model_componentsOf 34 = .ok (.getfield 25, 3) := by decide +kernel
theorem d_Model_componentsOf_37 : decode c_Model_componentsOf 37 = .ok (.iload 4, 2) := by decide +kernel
theorem d_Model_componentsOf_39 : decode c_Model_componentsOf 39 = .ok (.iconst 1, 1) := by decide +kernel
theorem d_Model_componentsOf_40 : decode c_Model_componentsOf 40 = .ok (.iadd, 1) := by decide +kernel
theorem d_Model_componentsOf_41 : decode c_Model_componentsOf 41 = .ok (.iaload, 1) := by decide +kernel
theorem d_Model_componentsOf_42 : decode c_Model_componentsOf 42 = .ok (.aload_n 0, 1) := by decide +kernel
theorem d_Model_componentsOf_43 : decode c_Model_componentsOf 43 = .ok (.getfield 25, 3) := by decide +kernel
theorem d_Model_componentsOf_46 : decode c_Model_componentsOf 46 = .ok (.iload 4, 2) := by decide +kernel
theorem d_Model_componentsOf_48 : decode c_Model_componentsOf 48 = .ok (.iaload, 1) := by decide +kernel
theorem d_Model_componentsOf_49 : decode c_Model_componentsOf 49 = .ok (.isub, 1) := by decide +kernel
theorem d_Model_componentsOf_50 : decode c_Model_componentsOf 50 = .ok (.ireturn, 1) := by decide +kernel
theorem d_Model_componentAt_0 : decode c_Model_componentAt 0 = .ok (.iload 4, 2) := by decide +kernel
theorem d_Model_componentAt_2 : decode c_Model_componentAt 2 = .ok (.ifCond .lt 15, 3) := by decide +kernel
theorem d_Model_componentAt_5 : decode c_Model_componentAt 5 = .ok (.iload 4, 2) := by decide +kernel
theorem d_Model_componentAt_7 : decode c_Model_componentAt 7 = .ok (.aload_n 0, 1) := by decide +kernel
theorem d_Model_componentAt_8 : decode c_Model_componentAt 8 = .ok (.iload_n 1, 1) := by decide +kernel
theorem d_Model_componentAt_9 : decode c_Model_componentAt 9 = .ok (.iload_n 2, 1) := by decide +kernel
theorem d_Model_componentAt_10 : decode c_Model_componentAt 10 = .ok (.iload_n 3, 1) := by decide +kernel
theorem d_Model_componentAt_11 : decode c_Model_componentAt 11 = .ok (.invokevirtual 162, 3) := by decide +kernel
theorem d_Model_componentAt_14 : decode c_Model_componentAt 14 = .ok (.if_icmp .lt 5, 3) := by decide +kernel
theorem d_Model_componentAt_17 : decode c_Model_componentAt 17 = .ok (.iconst (-1), 1) := by decide +kernel
theorem d_Model_componentAt_18 : decode c_Model_componentAt 18 = .ok (.ireturn, 1) := by decide +kernel
theorem d_Model_componentAt_19 : decode c_Model_componentAt 19 = .ok (.aload_n 0, 1) := by decide +kernel
theorem d_Model_componentAt_20 : decode c_Model_componentAt 20 = .ok (.getfield 25, 3) := by decide +kernel
theorem d_Model_componentAt_23 : decode c_Model_componentAt 23 = .ok (.aload_n 0, 1) := by decide +kernel
theorem d_Model_componentAt_24 : decode c_Model_componentAt 24 = .ok (.getfield 22, 3) := by decide +kernel
theorem d_Model_componentAt_27 : decode c_Model_componentAt 27 = .ok (.aload_n 0, 1) := by decide +kernel
theorem d_Model_componentAt_28 : decode c_Model_componentAt 28 = .ok (.getfield 19, 3) := by decide +kernel
theorem d_Model_componentAt_31 : decode c_Model_componentAt 31 = .ok (.iload_n 1, 1) := by decide +kernel
theorem d_Model_componentAt_32 : decode c_Model_componentAt 32 = .ok (.iaload, 1) := by decide +kernel
theorem d_Model_componentAt_33 : decode c_Model_componentAt 33 = .ok (.iload_n 2, 1) := by decide +kernel
theorem d_Model_componentAt_34 : decode c_Model_componentAt 34 = .ok (.iadd, 1) := by decide +kernel
theorem d_Model_componentAt_35 : decode c_Model_componentAt 35 = .ok (.iaload, 1) := by decide +kernel
theorem d_Model_componentAt_36 : decode c_Model_componentAt 36 = .ok (.iload_n 3, 1) := by decide +kernel
theorem d_Model_componentAt_37 : decode c_Model_componentAt 37 = .ok (.iadd, 1) := by decide +kernel
theorem d_Model_componentAt_38 : decode c_Model_componentAt 38 = .ok (.iaload, 1) := by decide +kernel
theorem d_Model_componentAt_39 : decode c_Model_componentAt 39 = .ok (.iload 4, 2) := by decide +kernel
theorem d_Model_componentAt_41 : decode c_Model_componentAt 41 = .ok (.iadd, 1) := by decide +kernel
theorem d_Model_componentAt_42 : decode c_Model_componentAt 42 = .ok (.ireturn, 1) := by decide +kernel
theorem d_Model_longOf_0 : decode c_Model_longOf 0 = .ok (.aload_n 0, 1) := by decide +kernel
theorem d_Model_longOf_1 : decode c_Model_longOf 1 = .ok (.getfield 28, 3) := by decide +kernel
theorem d_Model_longOf_4 : decode c_Model_longOf 4 = .ok (.iload_n 1, 1) := by decide +kernel
theorem d_Model_longOf_5 : decode c_Model_longOf 5 = .ok (.iconst 1, 1) := by decide +kernel
theorem d_Model_longOf_6 : decode c_Model_longOf 6 = .ok (.iadd, 1) := by decide +kernel
theorem d_Model_longOf_7 : decode c_Model_longOf 7 = .ok (.iaload, 1) := by decide +kernel
theorem d_Model_longOf_8 : decode c_Model_longOf 8 = .ok (.aload_n 0, 1) := by decide +kernel
theorem d_Model_longOf_9 : decode c_Model_longOf 9 = .ok (.getfield 28, 3) := by decide +kernel
theorem d_Model_longOf_12 : decode c_Model_longOf 12 = .ok (.iload_n 1, 1) := by decide +kernel
theorem d_Model_longOf_13 : decode c_Model_longOf 13 = .ok (.iaload, 1) := by decide +kernel
theorem d_Model_longOf_14 : decode c_Model_longOf 14 = .ok (.isub, 1) := by decide +kernel
theorem d_Model_longOf_15 : decode c_Model_longOf 15 = .ok (.ireturn, 1) := by decide +kernel
theorem d_Model_segment_0 : decode c_Model_segment 0 = .ok (.aload_n 0, 1) := by decide +kernel
theorem d_Model_segment_1 : decode c_Model_segment 1 = .ok (.aload_n 0, 1) := by decide +kernel
theorem d_Model_segment_2 : decode c_Model_segment 2 = .ok (.iload_n 1, 1) := by decide +kernel
theorem d_Model_segment_3 : decode c_Model_segment 3 = .ok (.invokevirtual 166, 3) := by decide +kernel
theorem d_Model_segment_6 : decode c_Model_segment 6 = .ok (.ifCond .eq 16, 3) := by decide +kernel
theorem d_Model_segment_9 : decode c_Model_segment 9 = .ok (.iload_n 2, 1) := by decide +kernel
theorem d_Model_segment_10 : decode c_Model_segment 10 = .ok (.ifCond .lt 12, 3) := by decide +kernel
theorem d_Model_segment_13 : decode c_Model_segment 13 = .ok (.iload_n 2, 1) := by decide +kernel
theorem d_Model_segment_14 : decode c_Model_segment 14 = .ok (.iconst 3, 1) := by decide +kernel
theorem d_Model_segment_15 : decode c_Model_segment 15 = .ok (.if_icmp .gt 7, 3) := by decide +kernel
theorem d_Model_segment_18 : decode c_Model_segment 18 = .ok (.iconst 0, 1) := by decide +kernel
theorem d_Model_segment_19 : decode c_Model_segment 19 = .ok (.goto 4, 3) := by decide +kernel
theorem d_Model_segment_22 : decode c_Model_segment 22 = .ok (.iconst 1, 1) := by decide +kernel
theorem d_Model_segment_23 : decode c_Model_segment 23 = .ok (.putfield 80, 3) := by decide +kernel
theorem d_Model_segment_26 : decode c_Model_segment 26 = .ok (.aload_n 0, 1) := by decide +kernel
theorem d_Model_segment_27 : decode c_Model_segment 27 = .ok (.getfield 80, 3) := by decide +kernel
theorem d_Model_segment_30 : decode c_Model_segment 30 = .ok (.ifCond .eq 5, 3) := by decide +kernel
theorem d_Model_segment_33 : decode c_Model_segment 33 = .ok (.iconst 0, 1) := by decide +kernel
theorem d_Model_segment_34 : decode c_Model_segment 34 = .ok (.ireturn, 1) := by decide +kernel
theorem d_Model_segment_35 : decode c_Model_segment 35 = .ok (.iload_n 2, 1) := by decide +kernel
theorem d_Model_segment_36 : decode c_Model_segment 36 = .ok (.ifCond .ne 12, 3) := by decide +kernel
theorem d_Model_segment_39 : decode c_Model_segment 39 = .ok (.aload_n 0, 1) := by decide +kernel
theorem d_Model_segment_40 : decode c_Model_segment 40 = .ok (.getfield 16, 3) := by decide +kernel
theorem d_Model_segment_43 : decode c_Model_segment 43 = .ok (.iload_n 1, 1) := by decide +kernel
theorem d_Model_segment_44 : decode c_Model_segment 44 = .ok (.iaload, 1) := by decide +kernel
theorem d_Model_segment_45 : decode c_Model_segment 45 = .ok (.goto 36, 3) := by decide +kernel
theorem d_Model_segment_48 : decode c_Model_segment 48 = .ok (.iload_n 2, 1) := by decide +kernel
theorem d_Model_segment_49 : decode c_Model_segment 49 = .ok (.iconst 1, 1) := by decide +kernel
theorem d_Model_segment_50 : decode c_Model_segment 50 = .ok (.if_icmp .ne 11, 3) := by decide +kernel
theorem d_Model_segment_53 : decode c_Model_segment 53 = .ok (.aload_n 0, 1) := by decide +kernel
theorem d_Model_segment_54 : decode c_Model_segment 54 = .ok (.iload_n 1, 1) := by decide +kernel
theorem d_Model_segment_55 : decode c_Model_segment 55 = .ok (.invokevirtual 154, 3) := by decide +kernel
theorem d_Model_segment_58 : decode c_Model_segment 58 = .ok (.goto 23, 3) := by decide +kernel
theorem d_Model_segment_61 : decode c_Model_segment 61 = .ok (.iload_n 2, 1) := by decide +kernel
theorem d_Model_segment_62 : decode c_Model_segment 62 = .ok (.iconst 2, 1) := by decide +kernel
theorem d_Model_segment_63 : decode c_Model_segment 63 = .ok (.if_icmp .ne 12, 3) := by decide +kernel
theorem d_Model_segment_66 : decode c_Model_segment 66 = .ok (.aload_n 0, 1) := by decide +kernel
theorem d_Model_segment_67 : decode c_Model_segment 67 = .ok (.getfield 59, 3) := by decide +kernel
theorem d_Model_segment_70 : decode c_Model_segment 70 = .ok (.iload_n 1, 1) := by decide +kernel
theorem d_Model_segment_71 : decode c_Model_segment 71 = .ok (.iaload, 1) := by decide +kernel
theorem d_Model_segment_72 : decode c_Model_segment 72 = .ok (.goto 9, 3) := by decide +kernel
theorem d_Model_segment_75 : decode c_Model_segment 75 = .ok (.aload_n 0, 1) := by decide +kernel
theorem d_Model_segment_76 : decode c_Model_segment 76 = .ok (.getfield 62, 3) := by decide +kernel
theorem d_Model_segment_79 : decode c_Model_segment 79 = .ok (.iload_n 1, 1) := by decide +kernel
theorem d_Model_segment_80 : decode c_Model_segment 80 = .ok (.iaload, 1) := by decide +kernel
theorem d_Model_segment_81 : decode c_Model_segment 81 = .ok (.ireturn, 1) := by decide +kernel
theorem d_Model_repeats_0 : decode c_Model_repeats 0 = .ok (.aload_n 0, 1) := by decide +kernel
theorem d_Model_repeats_1 : decode c_Model_repeats 1 = .ok (.aload_n 0, 1) := by decide +kernel
theorem d_Model_repeats_2 : decode c_Model_repeats 2 = .ok (.iload_n 1, 1) := by decide +kernel
theorem d_Model_repeats_3 : decode c_Model_repeats 3 = .ok (.invokevirtual 166, 3) := by decide +kernel
theorem d_Model_repeats_6 : decode c_Model_repeats 6 = .ok (.ifCond .eq 7, 3) := by decide +kernel
theorem d_Model_repeats_9 : decode c_Model_repeats 9 = .ok (.iconst 0, 1) := by decide +kernel
theorem d_Model_repeats_10 : decode c_Model_repeats 10 = .ok (.goto 4, 3) := by decide +kernel
theorem d_Model_repeats_13 : decode c_Model_repeats 13 = .ok (.iconst 1, 1) := by decide +kernel
theorem d_Model_repeats_14 : decode c_Model_repeats 14 = .ok (.putfield 80, 3) := by decide +kernel
theorem d_Model_repeats_17 : decode c_Model_repeats 17 = .ok (.aload_n 0, 1) := by decide +kernel
theorem d_Model_repeats_18 : decode c_Model_repeats 18 = .ok (.getfield 80, 3) := by decide +kernel
theorem d_Model_repeats_21 : decode c_Model_repeats 21 = .ok (.ifCond .eq 7, 3) := by decide +kernel
theorem d_Model_repeats_24 : decode c_Model_repeats 24 = .ok (.iconst 0, 1) := by decide +kernel
theorem d_Model_repeats_25 : decode c_Model_repeats 25 = .ok (.goto 9, 3) := by decide +kernel
theorem d_Model_repeats_28 : decode c_Model_repeats 28 = .ok (.aload_n 0, 1) := by decide +kernel
theorem d_Model_repeats_29 : decode c_Model_repeats 29 = .ok (.iload_n 1, 1) := by decide +kernel
theorem d_Model_repeats_30 : decode c_Model_repeats 30 = .ok (.iload_n 2, 1) := by decide +kernel
theorem d_Model_repeats_31 : decode c_Model_repeats 31 = .ok (.invokevirtual 158, 3) := by decide +kernel
theorem d_Model_repeats_34 : decode c_Model_repeats 34 = .ok (.ireturn, 1) := by decide +kernel
theorem d_Model_components_0 : decode c_Model_components 0 = .ok (.aload_n 0, 1) := by decide +kernel
theorem d_Model_components_1 : decode c_Model_components 1 = .ok (.aload_n 0, 1) := by decide +kernel
theorem d_Model_components_2 : decode c_Model_components 2 = .ok (.iload_n 1, 1) := by decide +kernel
theorem d_Model_components_3 : decode c_Model_components 3 = .ok (.invokevirtual 166, 3) := by decide +kernel
theorem d_Model_components_6 : decode c_Model_components 6 = .ok (.ifCond .eq 7, 3) := by decide +kernel
theorem d_Model_components_9 : decode c_Model_components 9 = .ok (.iconst 0, 1) := by decide +kernel
theorem d_Model_components_10 : decode c_Model_components 10 = .ok (.goto 4, 3) := by decide +kernel
theorem d_Model_components_13 : decode c_Model_components 13 = .ok (.iconst 1, 1) := by decide +kernel
theorem d_Model_components_14 : decode c_Model_components 14 = .ok (.putfield 80, 3) := by decide +kernel
theorem d_Model_components_17 : decode c_Model_components 17 = .ok (.aload_n 0, 1) := by decide +kernel
theorem d_Model_components_18 : decode c_Model_components 18 = .ok (.getfield 80, 3) := by decide +kernel
theorem d_Model_components_21 : decode c_Model_components 21 = .ok (.ifCond .eq 7, 3) := by decide +kernel
theorem d_Model_components_24 : decode c_Model_components 24 = .ok (.iconst 0, 1) := by decide +kernel
theorem d_Model_components_25 : decode c_Model_components 25 = .ok (.goto 10, 3) := by decide +kernel
theorem d_Model_components_28 : decode c_Model_components 28 = .ok (.aload_n 0, 1) := by decide +kernel
theorem d_Model_components_29 : decode c_Model_components 29 = .ok (.iload_n 1, 1) := by decide +kernel
theorem d_Model_components_30 : decode c_Model_components 30 = .ok (.iload_n 2, 1) := by decide +kernel
theorem d_Model_components_31 : decode c_Model_components 31 = .ok (.iload_n 3, 1) := by decide +kernel
theorem d_Model_components_32 : decode c_Model_components 32 = .ok (.invokevirtual 162, 3) := by decide +kernel
theorem d_Model_components_35 : decode c_Model_components 35 = .ok (.ireturn, 1) := by decide +kernel
theorem d_Model_field_0 : decode c_Model_field 0 = .ok (.aload_n 0, 1) := by decide +kernel
theorem d_Model_field_1 : decode c_Model_field 1 = .ok (.aload_n 0, 1) := by decide +kernel
theorem d_Model_field_2 : decode c_Model_field 2 = .ok (.iload_n 1, 1) := by decide +kernel
theorem d_Model_field_3 : decode c_Model_field 3 = .ok (.invokevirtual 166, 3) := by decide +kernel
theorem d_Model_field_6 : decode c_Model_field 6 = .ok (.ifCond .eq 7, 3) := by decide +kernel
theorem d_Model_field_9 : decode c_Model_field 9 = .ok (.iconst 0, 1) := by decide +kernel
theorem d_Model_field_10 : decode c_Model_field 10 = .ok (.goto 4, 3) := by decide +kernel
theorem d_Model_field_13 : decode c_Model_field 13 = .ok (.iconst 1, 1) := by decide +kernel
theorem d_Model_field_14 : decode c_Model_field 14 = .ok (.putfield 80, 3) := by decide +kernel
theorem d_Model_field_17 : decode c_Model_field 17 = .ok (.aload_n 0, 1) := by decide +kernel
theorem d_Model_field_18 : decode c_Model_field 18 = .ok (.getfield 80, 3) := by decide +kernel
theorem d_Model_field_21 : decode c_Model_field 21 = .ok (.ifCond .eq 5, 3) := by decide +kernel
theorem d_Model_field_24 : decode c_Model_field 24 = .ok (.iconst 0, 1) := by decide +kernel
theorem d_Model_field_25 : decode c_Model_field 25 = .ok (.ireturn, 1) := by decide +kernel
theorem d_Model_field_26 : decode c_Model_field 26 = .ok (.aload_n 0, 1) := by decide +kernel
theorem d_Model_field_27 : decode c_Model_field 27 = .ok (.iload_n 1, 1) := by decide +kernel
theorem d_Model_field_28 : decode c_Model_field 28 = .ok (.iload_n 2, 1) := by decide +kernel
theorem d_Model_field_29 : decode c_Model_field 29 = .ok (.iload_n 3, 1) := by decide +kernel
theorem d_Model_field_30 : decode c_Model_field 30 = .ok (.iload 4, 2) := by decide +kernel
theorem d_Model_field_32 : decode c_Model_field 32 = .ok (.invokevirtual 169, 3) := by decide +kernel
theorem d_Model_field_35 : decode c_Model_field 35 = .ok (.istore 5, 2) := by decide +kernel
theorem d_Model_field_37 : decode c_Model_field 37 = .ok (.iload 5, 2) := by decide +kernel
theorem d_Model_field_39 : decode c_Model_field 39 = .ok (.iconst (-1), 1) := by decide +kernel
theorem d_Model_field_40 : decode c_Model_field 40 = .ok (.if_icmp .ne 7, 3) := by decide +kernel
theorem d_Model_field_43 : decode c_Model_field 43 = .ok (.iconst (-1), 1) := by decide +kernel
theorem d_Model_field_44 : decode c_Model_field 44 = .ok (.goto 9, 3) := by decide +kernel
theorem d_Model_field_47 : decode c_Model_field 47 = .ok (.aload_n 0, 1) := by decide +kernel
theorem d_Model_field_48 : decode c_Model_field 48 = .ok (.iload 5, 2) := by decide +kernel
theorem d_Model_field_50 : decode c_Model_field 50 = .ok (.invokevirtual 173, 3) := by decide +kernel
theorem d_Model_field_53 : decode c_Model_field 53 = .ok (.ireturn, 1) := by decide +kernel
theorem d_Model_letter_0 : decode c_Model_letter 0 = .ok (.aload_n 0, 1) := by decide +kernel
theorem d_Model_letter_1 : decode c_Model_letter 1 = .ok (.aload_n 0, 1) := by decide +kernel
theorem d_Model_letter_2 : decode c_Model_letter 2 = .ok (.iload_n 1, 1) := by decide +kernel
theorem d_Model_letter_3 : decode c_Model_letter 3 = .ok (.invokevirtual 166, 3) := by decide +kernel
theorem d_Model_letter_6 : decode c_Model_letter 6 = .ok (.ifCond .eq 7, 3) := by decide +kernel
theorem d_Model_letter_9 : decode c_Model_letter 9 = .ok (.iconst 0, 1) := by decide +kernel
theorem d_Model_letter_10 : decode c_Model_letter 10 = .ok (.goto 4, 3) := by decide +kernel
theorem d_Model_letter_13 : decode c_Model_letter 13 = .ok (.iconst 1, 1) := by decide +kernel
theorem d_Model_letter_14 : decode c_Model_letter 14 = .ok (.putfield 80, 3) := by decide +kernel
theorem d_Model_letter_17 : decode c_Model_letter 17 = .ok (.aload_n 0, 1) := by decide +kernel
theorem d_Model_letter_18 : decode c_Model_letter 18 = .ok (.getfield 80, 3) := by decide +kernel
theorem d_Model_letter_21 : decode c_Model_letter 21 = .ok (.ifCond .eq 5, 3) := by decide +kernel
theorem d_Model_letter_24 : decode c_Model_letter 24 = .ok (.iconst 0, 1) := by decide +kernel
theorem d_Model_letter_25 : decode c_Model_letter 25 = .ok (.ireturn, 1) := by decide +kernel
theorem d_Model_letter_26 : decode c_Model_letter 26 = .ok (.aload_n 0, 1) := by decide +kernel
theorem d_Model_letter_27 : decode c_Model_letter 27 = .ok (.iload_n 1, 1) := by decide +kernel
theorem d_Model_letter_28 : decode c_Model_letter 28 = .ok (.iload_n 2, 1) := by decide +kernel
theorem d_Model_letter_29 : decode c_Model_letter 29 = .ok (.iload_n 3, 1) := by decide +kernel
theorem d_Model_letter_30 : decode c_Model_letter 30 = .ok (.iload 4, 2) := by decide +kernel
theorem d_Model_letter_32 : decode c_Model_letter 32 = .ok (.invokevirtual 169, 3) := by decide +kernel
theorem d_Model_letter_35 : decode c_Model_letter 35 = .ok (.istore 6, 2) := by decide +kernel
theorem d_Model_letter_37 : decode c_Model_letter 37 = .ok (.iload 6, 2) := by decide +kernel
theorem d_Model_letter_39 : decode c_Model_letter 39 = .ok (.iconst (-1), 1) := by decide +kernel
theorem d_Model_letter_40 : decode c_Model_letter 40 = .ok (.if_icmp .eq 19, 3) := by decide +kernel
theorem d_Model_letter_43 : decode c_Model_letter 43 = .ok (.iload 5, 2) := by decide +kernel
theorem d_Model_letter_45 : decode c_Model_letter 45 = .ok (.ifCond .lt 14, 3) := by decide +kernel
theorem d_Model_letter_48 : decode c_Model_letter 48 = .ok (.iload 5, 2) := by decide +kernel
theorem d_Model_letter_50 : decode c_Model_letter 50 = .ok (.aload_n 0, 1) := by decide +kernel
theorem d_Model_letter_51 : decode c_Model_letter 51 = .ok (.iload 6, 2) := by decide +kernel
theorem d_Model_letter_53 : decode c_Model_letter 53 = .ok (.invokevirtual 173, 3) := by decide +kernel
theorem d_Model_letter_56 : decode c_Model_letter 56 = .ok (.if_icmp .lt 7, 3) := by decide +kernel
theorem d_Model_letter_59 : decode c_Model_letter 59 = .ok (.iconst (-1), 1) := by decide +kernel
theorem d_Model_letter_60 : decode c_Model_letter 60 = .ok (.goto 18, 3) := by decide +kernel
theorem d_Model_letter_63 : decode c_Model_letter 63 = .ok (.aload_n 0, 1) := by decide +kernel
theorem d_Model_letter_64 : decode c_Model_letter 64 = .ok (.getfield 31, 3) := by decide +kernel
theorem d_Model_letter_67 : decode c_Model_letter 67 = .ok (.aload_n 0, 1) := by decide +kernel
theorem d_Model_letter_68 : decode c_Model_letter 68 = .ok (.getfield 28, 3) := by decide +kernel
theorem d_Model_letter_71 : decode c_Model_letter 71 = .ok (.iload 6, 2) := by decide +kernel
theorem d_Model_letter_73 : decode c_Model_letter 73 = .ok (.iaload, 1) := by decide +kernel
theorem d_Model_letter_74 : decode c_Model_letter 74 = .ok (.iload 5, 2) := by decide +kernel
theorem d_Model_letter_76 : decode c_Model_letter 76 = .ok (.iadd, 1) := by decide +kernel
theorem d_Model_letter_77 : decode c_Model_letter 77 = .ok (.iaload, 1) := by decide +kernel
theorem d_Model_letter_78 : decode c_Model_letter 78 = .ok (.ireturn, 1) := by decide +kernel
theorem d_Model_isTag_0 : decode c_Model_isTag 0 = .ok (.iload_n 0, 1) := by decide +kernel
theorem d_Model_isTag_1 : decode c_Model_isTag 1 = .ok (.bipush 16, 2) := by decide +kernel
theorem d_Model_isTag_3 : decode c_Model_isTag 3 = .ok (.ishr, 1) := by decide +kernel
theorem d_Model_isTag_4 : decode c_Model_isTag 4 = .ok (.istore_n 1, 1) := by decide +kernel
theorem d_Model_isTag_5 : decode c_Model_isTag 5 = .ok (.iload_n 0, 1) := by decide +kernel
theorem d_Model_isTag_6 : decode c_Model_isTag 6 = .ok (.bipush 8, 2) := by decide +kernel
theorem d_Model_isTag_8 : decode c_Model_isTag 8 = .ok (.ishr, 1) := by decide +kernel
theorem d_Model_isTag_9 : decode c_Model_isTag 9 = .ok (.sipush 255, 3) := by decide +kernel
theorem d_Model_isTag_12 : decode c_Model_isTag 12 = .ok (.iand, 1) := by decide +kernel
theorem d_Model_isTag_13 : decode c_Model_isTag 13 = .ok (.istore_n 2, 1) := by decide +kernel
theorem d_Model_isTag_14 : decode c_Model_isTag 14 = .ok (.iload_n 0, 1) := by decide +kernel
theorem d_Model_isTag_15 : decode c_Model_isTag 15 = .ok (.sipush 255, 3) := by decide +kernel
theorem d_Model_isTag_18 : decode c_Model_isTag 18 = .ok (.iand, 1) := by decide +kernel
theorem d_Model_isTag_19 : decode c_Model_isTag 19 = .ok (.istore_n 3, 1) := by decide +kernel
theorem d_Model_isTag_20 : decode c_Model_isTag 20 = .ok (.iload_n 1, 1) := by decide +kernel
theorem d_Model_isTag_21 : decode c_Model_isTag 21 = .ok (.invokestatic 96, 3) := by decide +kernel
theorem d_Model_isTag_24 : decode c_Model_isTag 24 = .ok (.ifCond .eq 35, 3) := by decide +kernel
theorem d_Model_isTag_27 : decode c_Model_isTag 27 = .ok (.iload_n 2, 1) := by decide +kernel
theorem d_Model_isTag_28 : decode c_Model_isTag 28 = .ok (.invokestatic 96, 3) := by decide +kernel
theorem d_Model_isTag_31 : decode c_Model_isTag 31 = .ok (.ifCond .ne 10, 3) := by decide +kernel
theorem d_Model_isTag_34 : decode c_Model_isTag 34 = .ok (.iload_n 2, 1) := by decide +kernel
theorem d_Model_isTag_35 : decode c_Model_isTag 35 = .ok (.invokestatic 100, 3) := by decide +kernel
theorem d_Model_isTag_38 : decode c_Model_isTag 38 = .ok (.ifCond .eq 21, 3) := by decide +kernel
theorem d_Model_isTag_41 : decode c_Model_isTag 41 = .ok (.iload_n 3, 1) := by decide +kernel
theorem d_Model_isTag_42 : decode c_Model_isTag 42 = .ok (.invokestatic 96, 3) := by decide +kernel
theorem d_Model_isTag_45 : decode c_Model_isTag 45 = .ok (.ifCond .ne 10, 3) := by decide +kernel
theorem d_Model_isTag_48 : decode c_Model_isTag 48 = .ok (.iload_n 3, 1) := by decide +kernel
theorem d_Model_isTag_49 : decode c_Model_isTag 49 = .ok (.invokestatic 100, 3) := by decide +kernel
theorem d_Model_isTag_52 : decode c_Model_isTag 52 = .ok (.ifCond .eq 7, 3) := by decide +kernel
theorem d_Model_isTag_55 : decode c_Model_isTag 55 = .ok (.iconst 1, 1) := by decide +kernel
theorem d_Model_isTag_56 : decode c_Model_isTag 56 = .ok (.goto 4, 3) := by decide +kernel
theorem d_Model_isTag_59 : decode c_Model_isTag 59 = .ok (.iconst 0, 1) := by decide +kernel
theorem d_Model_isTag_60 : decode c_Model_isTag 60 = .ok (.ireturn, 1) := by decide +kernel
theorem d_Model_row_0 : decode c_Model_row 0 = .ok (.iload_n 1, 1) := by decide +kernel
theorem d_Model_row_1 : decode c_Model_row 1 = .ok (.ifCond .lt 42, 3) := by decide +kernel
theorem d_Model_row_4 : decode c_Model_row 4 = .ok (.iload_n 1, 1) := by decide +kernel
theorem d_Model_row_5 : decode c_Model_row 5 = .ok (.iconst 3, 1) := by decide +kernel
theorem d_Model_row_6 : decode c_Model_row 6 = .ok (.if_icmp .gt 37, 3) := by decide +kernel
theorem d_Model_row_9 : decode c_Model_row 9 = .ok (.iload_n 2, 1) := by decide +kernel
theorem d_Model_row_10 : decode c_Model_row 10 = .ok (.invokestatic 176, 3) := by decide +kernel
theorem d_Model_row_13 : decode c_Model_row 13 = .ok (.ifCond .eq 30, 3) := by decide +kernel
theorem d_Model_row_16 : decode c_Model_row 16 = .ok (.iload_n 3, 1) := by decide +kernel
theorem d_Model_row_17 : decode c_Model_row 17 = .ok (.ifCond .lt 26, 3) := by decide +kernel
theorem d_Model_row_20 : decode c_Model_row 20 = .ok (.iload 4, 2) := by decide +kernel
theorem d_Model_row_22 : decode c_Model_row 22 = .ok (.iconst 1, 1) := by decide +kernel
theorem d_Model_row_23 : decode c_Model_row 23 = .ok (.if_icmp .lt 20, 3) := by decide +kernel
theorem d_Model_row_26 : decode c_Model_row 26 = .ok (.iload 4, 2) := by decide +kernel
theorem d_Model_row_28 : decode c_Model_row 28 = .ok (.bipush 20, 2) := by decide +kernel
theorem d_Model_row_30 : decode c_Model_row 30 = .ok (.if_icmp .gt 13, 3) := by decide +kernel
theorem d_Model_row_33 : decode c_Model_row 33 = .ok (.iload_n 3, 1) := by decide +kernel
theorem d_Model_row_34 : decode c_Model_row 34 = .ok (.iload 4, 2) := by decide +kernel
theorem d_Model_row_36 : decode c_Model_row 36 = .ok (.if_icmp .gt 7, 3) := by decide +kernel
theorem d_Model_row_39 : decode c_Model_row 39 = .ok (.iconst 1, 1) := by decide +kernel
theorem d_Model_row_40 : decode c_Model_row 40 = .ok (.goto 4, 3) := by decide +kernel
theorem d_Model_row_43 : decode c_Model_row 43 = .ok (.iconst 0, 1) := by decide +kernel
theorem d_Model_row_44 : decode c_Model_row 44 = .ok (.istore 6, 2) := by decide +kernel
theorem d_Model_row_46 : decode c_Model_row 46 = .ok (.aload_n 0, 1) := by decide +kernel
theorem d_Model_row_47 : decode c_Model_row 47 = .ok (.iload 6, 2) := by decide +kernel
theorem d_Model_row_49 : decode c_Model_row 49 = .ok (.ifCond .eq 7, 3) := by decide +kernel
theorem d_Model_row_52 : decode c_Model_row 52 = .ok (.iconst 0, 1) := by decide +kernel
theorem d_Model_row_53 : decode c_Model_row 53 = .ok (.goto 4, 3) := by decide +kernel
theorem d_Model_row_56 : decode c_Model_row 56 = .ok (.iconst 1, 1) := by decide +kernel
theorem d_Model_row_57 : decode c_Model_row 57 = .ok (.putfield 80, 3) := by decide +kernel
theorem d_Model_row_60 : decode c_Model_row 60 = .ok (.iload 6, 2) := by decide +kernel
theorem d_Model_row_62 : decode c_Model_row 62 = .ok (.ifCond .ne 5, 3) := by decide +kernel
theorem d_Model_row_65 : decode c_Model_row 65 = .ok (.iconst 0, 1) := by decide +kernel
theorem d_Model_row_66 : decode c_Model_row 66 = .ok (.ireturn, 1) := by decide +kernel
theorem d_Model_row_67 : decode c_Model_row 67 = .ok (.aload_n 0, 1) := by decide +kernel
theorem d_Model_row_68 : decode c_Model_row 68 = .ok (.getfield 34, 3) := by decide +kernel
theorem d_Model_row_71 : decode c_Model_row 71 = .ok (.iload_n 1, 1) := by decide +kernel
theorem d_Model_row_72 : decode c_Model_row 72 = .ok (.iaload, 1) := by decide +kernel
theorem d_Model_row_73 : decode c_Model_row 73 = .ok (.istore 7, 2) := by decide +kernel
theorem d_Model_row_75 : decode c_Model_row 75 = .ok (.iload 7, 2) := by decide +kernel
theorem d_Model_row_77 : decode c_Model_row 77 = .ok (.ifCond .ne 7, 3) := by decide +kernel
theorem d_Model_row_80 : decode c_Model_row 80 = .ok (.iconst 0, 1) := by decide +kernel
theorem d_Model_row_81 : decode c_Model_row 81 = .ok (.goto 30, 3) := by decide +kernel
theorem d_Model_row_84 : decode c_Model_row 84 = .ok (.iload 7, 2) := by decide +kernel
theorem d_Model_row_86 : decode c_Model_row 86 = .ok (.bipush 20, 2) := by decide +kernel
theorem d_Model_row_88 : decode c_Model_row 88 = .ok (.if_icmp .ne 7, 3) := by decide +kernel
theorem d_Model_row_91 : decode c_Model_row 91 = .ok (.iconst (-1), 1) := by decide +kernel
theorem d_Model_row_92 : decode c_Model_row 92 = .ok (.goto 19, 3) := by decide +kernel
theorem d_Model_row_95 : decode c_Model_row 95 = .ok (.aload_n 0, 1) := by decide +kernel
theorem d_Model_row_96 : decode c_Model_row 96 = .ok (.getfield 46, 3) := by decide +kernel
theorem d_Model_row_99 : decode c_Model_row 99 = .ok (.bipush 20, 2) := by decide +kernel
theorem d_Model_row_101 : decode c_Model_row 101 = .ok (.iload_n 1, 1) := by decide +kernel
theorem d_Model_row_102 : decode c_Model_row 102 = .ok (.imul, 1) := by decide +kernel
theorem d_Model_row_103 : decode c_Model_row 103 = .ok (.iload 7, 2) := by decide +kernel
theorem d_Model_row_105 : decode c_Model_row 105 = .ok (.iadd, 1) := by decide +kernel
theorem d_Model_row_106 : decode c_Model_row 106 = .ok (.iconst 1, 1) := by decide +kernel
theorem d_Model_row_107 : decode c_Model_row 107 = .ok (.isub, 1) := by decide +kernel
theorem d_Model_row_108 : decode c_Model_row 108 = .ok (.iaload, 1) := by decide +kernel
theorem d_Model_row_109 : decode c_Model_row 109 = .ok (.iconst 1, 1) := by decide +kernel
theorem d_Model_row_110 : decode c_Model_row 110 = .ok (.iadd, 1) := by decide +kernel
theorem d_Model_row_111 : decode c_Model_row 111 = .ok (.istore 8, 2) := by decide +kernel
theorem d_Model_row_113 : decode c_Model_row 113 = .ok (.iload 8, 2) := by decide +kernel
theorem d_Model_row_115 : decode c_Model_row 115 = .ok (.iconst 3, 1) := by decide +kernel
theorem d_Model_row_116 : decode c_Model_row 116 = .ok (.if_icmp .le 6, 3) := by decide +kernel
theorem d_Model_row_119 : decode c_Model_row 119 = .ok (.iconst 3, 1) := by decide +kernel
theorem d_Model_row_120 : decode c_Model_row 120 = .ok (.istore 8, 2) := by decide +kernel
theorem d_Model_row_122 : decode c_Model_row 122 = .ok (.aload_n 0, 1) := by decide +kernel
theorem d_Model_row_123 : decode c_Model_row 123 = .ok (.iload 7, 2) := by decide +kernel
theorem d_Model_row_125 : decode c_Model_row 125 = .ok (.bipush 20, 2) := by decide +kernel
theorem d_Model_row_127 : decode c_Model_row 127 = .ok (.if_icmp .eq 15, 3) := by decide +kernel
theorem d_Model_row_130 : decode c_Model_row 130 = .ok (.iload 5, 2) := by decide +kernel
theorem d_Model_row_132 : decode c_Model_row 132 = .ok (.ifCond .lt 10, 3) := by decide +kernel
theorem d_Model_row_135 : decode c_Model_row 135 = .ok (.iload 5, 2) := by decide +kernel
theorem d_Model_row_137 : decode c_Model_row 137 = .ok (.iload 8, 2) := by decide +kernel
theorem d_Model_row_139 : decode c_Model_row 139 = .ok (.if_icmp .le 7, 3) := by decide +kernel
theorem d_Model_row_142 : decode c_Model_row 142 = .ok (.iconst 2, 1) := by decide +kernel
theorem d_Model_row_143 : decode c_Model_row 143 = .ok (.goto 4, 3) := by decide +kernel
theorem d_Model_row_146 : decode c_Model_row 146 = .ok (.iconst 0, 1) := by decide +kernel
theorem d_Model_row_147 : decode c_Model_row 147 = .ok (.putfield 80, 3) := by decide +kernel
theorem d_Model_row_150 : decode c_Model_row 150 = .ok (.aload_n 0, 1) := by decide +kernel
theorem d_Model_row_151 : decode c_Model_row 151 = .ok (.getfield 80, 3) := by decide +kernel
theorem d_Model_row_154 : decode c_Model_row 154 = .ok (.ifCond .eq 5, 3) := by decide +kernel
theorem d_Model_row_157 : decode c_Model_row 157 = .ok (.iconst 0, 1) := by decide +kernel
theorem d_Model_row_158 : decode c_Model_row 158 = .ok (.ireturn, 1) := by decide +kernel
theorem d_Model_row_159 : decode c_Model_row 159 = .ok (.aload_n 0, 1) := by decide +kernel
theorem d_Model_row_160 : decode c_Model_row 160 = .ok (.getfield 37, 3) := by decide +kernel
theorem d_Model_row_163 : decode c_Model_row 163 = .ok (.bipush 20, 2) := by decide +kernel
theorem d_Model_row_165 : decode c_Model_row 165 = .ok (.iload_n 1, 1) := by decide +kernel
theorem d_Model_row_166 : decode c_Model_row 166 = .ok (.imul, 1) := by decide +kernel
theorem d_Model_row_167 : decode c_Model_row 167 = .ok (.iload 7, 2) := by decide +kernel
theorem d_Model_row_169 : decode c_Model_row 169 = .ok (.iadd, 1) := by decide +kernel
theorem d_Model_row_170 : decode c_Model_row 170 = .ok (.iload_n 2, 1) := by decide +kernel
theorem d_Model_row_171 : decode c_Model_row 171 = .ok (.iastore, 1) := by decide +kernel
theorem d_Model_row_172 : decode c_Model_row 172 = .ok (.aload_n 0, 1) := by decide +kernel
theorem d_Model_row_173 : decode c_Model_row 173 = .ok (.getfield 40, 3) := by decide +kernel
theorem d_Model_row_176 : decode c_Model_row 176 = .ok (.bipush 20, 2) := by decide +kernel
theorem d_Model_row_178 : decode c_Model_row 178 = .ok (.iload_n 1, 1) := by decide +kernel
theorem d_Model_row_179 : decode c_Model_row 179 = .ok (.imul, 1) := by decide +kernel
theorem d_Model_row_180 : decode c_Model_row 180 = .ok (.iload 7, 2) := by decide +kernel
theorem d_Model_row_182 : decode c_Model_row 182 = .ok (.iadd, 1) := by decide +kernel
theorem d_Model_row_183 : decode c_Model_row 183 = .ok (.iload_n 3, 1) := by decide +kernel
theorem d_Model_row_184 : decode c_Model_row 184 = .ok (.iastore, 1) := by decide +kernel
theorem d_Model_row_185 : decode c_Model_row 185 = .ok (.aload_n 0, 1) := by decide +kernel
theorem d_Model_row_186 : decode c_Model_row 186 = .ok (.getfield 43, 3) := by decide +kernel
theorem d_Model_row_189 : decode c_Model_row 189 = .ok (.bipush 20, 2) := by decide +kernel
theorem d_Model_row_191 : decode c_Model_row 191 = .ok (.iload_n 1, 1) := by decide +kernel
theorem d_Model_row_192 : decode c_Model_row 192 = .ok (.imul, 1) := by decide +kernel
theorem d_Model_row_193 : decode c_Model_row 193 = .ok (.iload 7, 2) := by decide +kernel
theorem d_Model_row_195 : decode c_Model_row 195 = .ok (.iadd, 1) := by decide +kernel
theorem d_Model_row_196 : decode c_Model_row 196 = .ok (.iload 4, 2) := by decide +kernel
theorem d_Model_row_198 : decode c_Model_row 198 = .ok (.iastore, 1) := by decide +kernel
theorem d_Model_row_199 : decode c_Model_row 199 = .ok (.aload_n 0, 1) := by decide +kernel
theorem d_Model_row_200 : decode c_Model_row 200 = .ok (.getfield 46, 3) := by decide +kernel
theorem d_Model_row_203 : decode c_Model_row 203 = .ok (.bipush 20, 2) := by decide +kernel
theorem d_Model_row_205 : decode c_Model_row 205 = .ok (.iload_n 1, 1) := by decide +kernel
theorem d_Model_row_206 : decode c_Model_row 206 = .ok (.imul, 1) := by decide +kernel
theorem d_Model_row_207 : decode c_Model_row 207 = .ok (.iload 7, 2) := by decide +kernel
theorem d_Model_row_209 : decode c_Model_row 209 = .ok (.iadd, 1) := by decide +kernel
theorem d_Model_row_210 : decode c_Model_row 210 = .ok (.iload 5, 2) := by decide +kernel
theorem d_Model_row_212 : decode c_Model_row 212 = .ok (.iastore, 1) := by decide +kernel
theorem d_Model_row_213 : decode c_Model_row 213 = .ok (.aload_n 0, 1) := by decide +kernel
theorem d_Model_row_214 : decode c_Model_row 214 = .ok (.getfield 34, 3) := by decide +kernel
theorem d_Model_row_217 : decode c_Model_row 217 = .ok (.iload_n 1, 1) := by decide +kernel
theorem d_Model_row_218 : decode c_Model_row 218 = .ok (.dup2, 1) := by decide +kernel
theorem d_Model_row_219 : decode c_Model_row 219 = .ok (.iaload, 1) := by decide +kernel
theorem d_Model_row_220 : decode c_Model_row 220 = .ok (.iconst 1, 1) := by decide +kernel
theorem d_Model_row_221 : decode c_Model_row 221 = .ok (.iadd, 1) := by decide +kernel
theorem d_Model_row_222 : decode c_Model_row 222 = .ok (.iastore, 1) := by decide +kernel
theorem d_Model_row_223 : decode c_Model_row 223 = .ok (.iload 7, 2) := by decide +kernel
theorem d_Model_row_225 : decode c_Model_row 225 = .ok (.iconst 1, 1) := by decide +kernel
theorem d_Model_row_226 : decode c_Model_row 226 = .ok (.iadd, 1) := by decide +kernel
theorem d_Model_row_227 : decode c_Model_row 227 = .ok (.ireturn, 1) := by decide +kernel
theorem d_Model_isCount_0 : decode c_Model_isCount 0 = .ok (.aload_n 0, 1) := by decide +kernel
theorem d_Model_isCount_1 : decode c_Model_isCount 1 = .ok (.getfield 106, 3) := by decide +kernel
theorem d_Model_isCount_4 : decode c_Model_isCount 4 = .ok (.istore_n 2, 1) := by decide +kernel
theorem d_Model_isCount_5 : decode c_Model_isCount 5 = .ok (.iload_n 1, 1) := by decide +kernel
theorem d_Model_isCount_6 : decode c_Model_isCount 6 = .ok (.iconst (-1), 1) := by decide +kernel
theorem d_Model_isCount_7 : decode c_Model_isCount 7 = .ok (.if_icmp .eq 22, 3) := by decide +kernel
theorem d_Model_isCount_10 : decode c_Model_isCount 10 = .ok (.aload_n 0, 1) := by decide +kernel
theorem d_Model_isCount_11 : decode c_Model_isCount 11 = .ok (.iload_n 1, 1) := by decide +kernel
theorem d_Model_isCount_12 : decode c_Model_isCount 12 = .ok (.invokevirtual 173, 3) := by decide +kernel
theorem d_Model_isCount_15 : decode c_Model_isCount 15 = .ok (.iload_n 2, 1) := by decide +kernel
theorem d_Model_isCount_16 : decode c_Model_isCount 16 = .ok (.bipush 9, 2) := by decide +kernel
theorem d_Model_isCount_18 : decode c_Model_isCount 18 = .ok (.if_icmp .le 7, 3) := by decide +kernel
theorem d_Model_isCount_21 : decode c_Model_isCount 21 = .ok (.iconst 2, 1) := by decide +kernel
theorem d_Model_isCount_22 : decode c_Model_isCount 22 = .ok (.goto 4, 3) := by decide +kernel
theorem d_Model_isCount_25 : decode c_Model_isCount 25 = .ok (.iconst 1, 1) := by decide +kernel
theorem d_Model_isCount_26 : decode c_Model_isCount 26 = .ok (.if_icmp .eq 5, 3) := by decide +kernel
theorem d_Model_isCount_29 : decode c_Model_isCount 29 = .ok (.iconst 0, 1) := by decide +kernel
theorem d_Model_isCount_30 : decode c_Model_isCount 30 = .ok (.ireturn, 1) := by decide +kernel
theorem d_Model_isCount_31 : decode c_Model_isCount 31 = .ok (.aload_n 0, 1) := by decide +kernel
theorem d_Model_isCount_32 : decode c_Model_isCount 32 = .ok (.getfield 28, 3) := by decide +kernel
theorem d_Model_isCount_35 : decode c_Model_isCount 35 = .ok (.iload_n 1, 1) := by decide +kernel
theorem d_Model_isCount_36 : decode c_Model_isCount 36 = .ok (.iaload, 1) := by decide +kernel
theorem d_Model_isCount_37 : decode c_Model_isCount 37 = .ok (.istore_n 3, 1) := by decide +kernel
theorem d_Model_isCount_38 : decode c_Model_isCount 38 = .ok (.iload_n 2, 1) := by decide +kernel
theorem d_Model_isCount_39 : decode c_Model_isCount 39 = .ok (.bipush 9, 2) := by decide +kernel
theorem d_Model_isCount_41 : decode c_Model_isCount 41 = .ok (.if_icmp .le 45, 3) := by decide +kernel
theorem d_Model_isCount_44 : decode c_Model_isCount 44 = .ok (.aload_n 0, 1) := by decide +kernel
theorem d_Model_isCount_45 : decode c_Model_isCount 45 = .ok (.getfield 31, 3) := by decide +kernel
theorem d_Model_isCount_48 : decode c_Model_isCount 48 = .ok (.iload_n 3, 1) := by decide +kernel
theorem d_Model_isCount_49 : decode c_Model_isCount 49 = .ok (.iaload, 1) := by decide +kernel
theorem d_Model_isCount_50 : decode c_Model_isCount 50 = .ok (.bipush 48, 2) := by decide +kernel
theorem d_Model_isCount_52 : decode c_Model_isCount 52 = .ok (.iload_n 2, 1) := by decide +kernel
theorem d_Model_isCount_53 : decode c_Model_isCount 53 = .ok (.bipush 10, 2) := by decide +kernel
theorem d_Model_isCount_55 : decode c_Model_isCount 55 = .ok (.idiv, 1) := by decide +kernel
theorem d_Model_isCount_56 : decode c_Model_isCount 56 = .ok (.iadd, 1) := by decide +kernel
theorem d_Model_isCount_57 : decode c_Model_isCount 57 = .ok (.if_icmp .ne 25, 3) := by decide +kernel
theorem d_Model_isCount_60 : decode c_Model_isCount 60 = .ok (.aload_n 0, 1) := by decide +kernel
theorem d_Model_isCount_61 : decode c_Model_isCount 61 = .ok (.getfield 31, 3) := by decide +kernel
theorem d_Model_isCount_64 : decode c_Model_isCount 64 = .ok (.iload_n 3, 1) := by decide +kernel
theorem d_Model_isCount_65 : decode c_Model_isCount 65 = .ok (.iconst 1, 1) := by decide +kernel
theorem d_Model_isCount_66 : decode c_Model_isCount 66 = .ok (.iadd, 1) := by decide +kernel
theorem d_Model_isCount_67 : decode c_Model_isCount 67 = .ok (.iaload, 1) := by decide +kernel
theorem d_Model_isCount_68 : decode c_Model_isCount 68 = .ok (.bipush 48, 2) := by decide +kernel
theorem d_Model_isCount_70 : decode c_Model_isCount 70 = .ok (.iload_n 2, 1) := by decide +kernel
theorem d_Model_isCount_71 : decode c_Model_isCount 71 = .ok (.bipush 10, 2) := by decide +kernel
theorem d_Model_isCount_73 : decode c_Model_isCount 73 = .ok (.irem, 1) := by decide +kernel
theorem d_Model_isCount_74 : decode c_Model_isCount 74 = .ok (.iadd, 1) := by decide +kernel
theorem d_Model_isCount_75 : decode c_Model_isCount 75 = .ok (.if_icmp .ne 7, 3) := by decide +kernel
theorem d_Model_isCount_78 : decode c_Model_isCount 78 = .ok (.iconst 1, 1) := by decide +kernel
theorem d_Model_isCount_79 : decode c_Model_isCount 79 = .ok (.goto 25, 3) := by decide +kernel
theorem d_Model_isCount_82 : decode c_Model_isCount 82 = .ok (.iconst 0, 1) := by decide +kernel
theorem d_Model_isCount_83 : decode c_Model_isCount 83 = .ok (.goto 21, 3) := by decide +kernel
theorem d_Model_isCount_86 : decode c_Model_isCount 86 = .ok (.aload_n 0, 1) := by decide +kernel
theorem d_Model_isCount_87 : decode c_Model_isCount 87 = .ok (.getfield 31, 3) := by decide +kernel
theorem d_Model_isCount_90 : decode c_Model_isCount 90 = .ok (.iload_n 3, 1) := by decide +kernel
theorem d_Model_isCount_91 : decode c_Model_isCount 91 = .ok (.iaload, 1) := by decide +kernel
theorem d_Model_isCount_92 : decode c_Model_isCount 92 = .ok (.bipush 48, 2) := by decide +kernel
theorem d_Model_isCount_94 : decode c_Model_isCount 94 = .ok (.iload_n 2, 1) := by decide +kernel
theorem d_Model_isCount_95 : decode c_Model_isCount 95 = .ok (.iadd, 1) := by decide +kernel
theorem d_Model_isCount_96 : decode c_Model_isCount 96 = .ok (.if_icmp .ne 7, 3) := by decide +kernel
theorem d_Model_isCount_99 : decode c_Model_isCount 99 = .ok (.iconst 1, 1) := by decide +kernel
theorem d_Model_isCount_100 : decode c_Model_isCount 100 = .ok (.goto 4, 3) := by decide +kernel
theorem d_Model_isCount_103 : decode c_Model_isCount 103 = .ok (.iconst 0, 1) := by decide +kernel
theorem d_Model_isCount_104 : decode c_Model_isCount 104 = .ok (.ireturn, 1) := by decide +kernel
theorem d_Model_alike_0 : decode c_Model_alike 0 = .ok (.iload_n 1, 1) := by decide +kernel
theorem d_Model_alike_1 : decode c_Model_alike 1 = .ok (.iconst (-1), 1) := by decide +kernel
theorem d_Model_alike_2 : decode c_Model_alike 2 = .ok (.if_icmp .eq 21, 3) := by decide +kernel
theorem d_Model_alike_5 : decode c_Model_alike 5 = .ok (.iload_n 2, 1) := by decide +kernel
theorem d_Model_alike_6 : decode c_Model_alike 6 = .ok (.iconst (-1), 1) := by decide +kernel
theorem d_Model_alike_7 : decode c_Model_alike 7 = .ok (.if_icmp .eq 16, 3) := by decide +kernel
theorem d_Model_alike_10 : decode c_Model_alike 10 = .ok (.aload_n 0, 1) := by decide +kernel
theorem d_Model_alike_11 : decode c_Model_alike 11 = .ok (.iload_n 1, 1) := by decide +kernel
theorem d_Model_alike_12 : decode c_Model_alike 12 = .ok (.invokevirtual 173, 3) := by decide +kernel
theorem d_Model_alike_15 : decode c_Model_alike 15 = .ok (.aload_n 0, 1) := by decide +kernel
theorem d_Model_alike_16 : decode c_Model_alike 16 = .ok (.iload_n 2, 1) := by decide +kernel
theorem d_Model_alike_17 : decode c_Model_alike 17 = .ok (.invokevirtual 173, 3) := by decide +kernel
theorem d_Model_alike_20 : decode c_Model_alike 20 = .ok (.if_icmp .eq 5, 3) := by decide +kernel
theorem d_Model_alike_23 : decode c_Model_alike 23 = .ok (.iconst 0, 1) := by decide +kernel
theorem d_Model_alike_24 : decode c_Model_alike 24 = .ok (.ireturn, 1) := by decide +kernel
theorem d_Model_alike_25 : decode c_Model_alike 25 = .ok (.iconst 0, 1) := by decide +kernel
theorem d_Model_alike_26 : decode c_Model_alike 26 = .ok (.istore_n 3, 1) := by decide +kernel
theorem d_Model_alike_27 : decode c_Model_alike 27 = .ok (.iload_n 3, 1) := by decide +kernel
theorem d_Model_alike_28 : decode c_Model_alike 28 = .ok (.aload_n 0, 1) := by decide +kernel
theorem d_Model_alike_29 : decode c_Model_alike 29 = .ok (.iload_n 1, 1) := by decide +kernel
theorem d_Model_alike_30 : decode c_Model_alike 30 = .ok (.invokevirtual 173, 3) := by decide +kernel
theorem d_Model_alike_33 : decode c_Model_alike 33 = .ok (.if_icmp .ge 40, 3) := by decide +kernel
theorem d_Model_alike_36 : decode c_Model_alike 36 = .ok (.aload_n 0, 1) := by decide +kernel
theorem d_Model_alike_37 : decode c_Model_alike 37 = .ok (.getfield 31, 3) := by decide +kernel
theorem d_Model_alike_40 : decode c_Model_alike 40 = .ok (.aload_n 0, 1) := by decide +kernel
theorem d_Model_alike_41 : decode c_Model_alike 41 = .ok (.getfield 28, 3) := by decide +kernel
theorem d_Model_alike_44 : decode c_Model_alike 44 = .ok (.iload_n 1, 1) := by decide +kernel
theorem d_Model_alike_45 : decode c_Model_alike 45 = .ok (.iaload, 1) := by decide +kernel
theorem d_Model_alike_46 : decode c_Model_alike 46 = .ok (.iload_n 3, 1) := by decide +kernel
theorem d_Model_alike_47 : decode c_Model_alike 47 = .ok (.iadd, 1) := by decide +kernel
theorem d_Model_alike_48 : decode c_Model_alike 48 = .ok (.iaload, 1) := by decide +kernel
theorem d_Model_alike_49 : decode c_Model_alike 49 = .ok (.aload_n 0, 1) := by decide +kernel
theorem d_Model_alike_50 : decode c_Model_alike 50 = .ok (.getfield 31, 3) := by decide +kernel
theorem d_Model_alike_53 : decode c_Model_alike 53 = .ok (.aload_n 0, 1) := by decide +kernel
theorem d_Model_alike_54 : decode c_Model_alike 54 = .ok (.getfield 28, 3) := by decide +kernel
theorem d_Model_alike_57 : decode c_Model_alike 57 = .ok (.iload_n 2, 1) := by decide +kernel
theorem d_Model_alike_58 : decode c_Model_alike 58 = .ok (.iaload, 1) := by decide +kernel
theorem d_Model_alike_59 : decode c_Model_alike 59 = .ok (.iload_n 3, 1) := by decide +kernel
theorem d_Model_alike_60 : decode c_Model_alike 60 = .ok (.iadd, 1) := by decide +kernel
theorem d_Model_alike_61 : decode c_Model_alike 61 = .ok (.iaload, 1) := by decide +kernel
theorem d_Model_alike_62 : decode c_Model_alike 62 = .ok (.if_icmp .eq 5, 3) := by decide +kernel
theorem d_Model_alike_65 : decode c_Model_alike 65 = .ok (.iconst 0, 1) := by decide +kernel
theorem d_Model_alike_66 : decode c_Model_alike 66 = .ok (.ireturn, 1) := by decide +kernel
theorem d_Model_alike_67 : decode c_Model_alike 67 = .ok (.iinc 3 1, 3) := by decide +kernel
theorem d_Model_alike_70 : decode c_Model_alike 70 = .ok (.goto (-43), 3) := by decide +kernel
theorem d_Model_alike_73 : decode c_Model_alike 73 = .ok (.iconst 1, 1) := by decide +kernel
theorem d_Model_alike_74 : decode c_Model_alike 74 = .ok (.ireturn, 1) := by decide +kernel
theorem d_Model_kindOf_0 : decode c_Model_kindOf 0 = .ok (.aload_n 0, 1) := by decide +kernel
theorem d_Model_kindOf_1 : decode c_Model_kindOf 1 = .ok (.iconst 0, 1) := by decide +kernel
theorem d_Model_kindOf_2 : decode c_Model_kindOf 2 = .ok (.iconst 1, 1) := by decide +kernel
theorem d_Model_kindOf_3 : decode c_Model_kindOf 3 = .ok (.iconst 0, 1) := by decide +kernel
theorem d_Model_kindOf_4 : decode c_Model_kindOf 4 = .ok (.iconst 0, 1) := by decide +kernel
theorem d_Model_kindOf_5 : decode c_Model_kindOf 5 = .ok (.invokevirtual 169, 3) := by decide +kernel
theorem d_Model_kindOf_8 : decode c_Model_kindOf 8 = .ok (.istore_n 1, 1) := by decide +kernel
theorem d_Model_kindOf_9 : decode c_Model_kindOf 9 = .ok (.iload_n 1, 1) := by decide +kernel
theorem d_Model_kindOf_10 : decode c_Model_kindOf 10 = .ok (.iconst (-1), 1) := by decide +kernel
theorem d_Model_kindOf_11 : decode c_Model_kindOf 11 = .ok (.if_icmp .eq 12, 3) := by decide +kernel
theorem d_Model_kindOf_14 : decode c_Model_kindOf 14 = .ok (.aload_n 0, 1) := by decide +kernel
theorem d_Model_kindOf_15 : decode c_Model_kindOf 15 = .ok (.iload_n 1, 1) := by decide +kernel
theorem d_Model_kindOf_16 : decode c_Model_kindOf 16 = .ok (.invokevirtual 173, 3) := by decide +kernel
theorem d_Model_kindOf_19 : decode c_Model_kindOf 19 = .ok (.iconst 1, 1) := by decide +kernel
theorem d_Model_kindOf_20 : decode c_Model_kindOf 20 = .ok (.if_icmp .eq 5, 3) := by decide +kernel
theorem d_Model_kindOf_23 : decode c_Model_kindOf 23 = .ok (.iconst (-1), 1) := by decide +kernel
theorem d_Model_kindOf_24 : decode c_Model_kindOf 24 = .ok (.ireturn, 1) := by decide +kernel
theorem d_Model_kindOf_25 : decode c_Model_kindOf 25 = .ok (.aload_n 0, 1) := by decide +kernel
theorem d_Model_kindOf_26 : decode c_Model_kindOf 26 = .ok (.getfield 31, 3) := by decide +kernel
theorem d_Model_kindOf_29 : decode c_Model_kindOf 29 = .ok (.aload_n 0, 1) := by decide +kernel
theorem d_Model_kindOf_30 : decode c_Model_kindOf 30 = .ok (.getfield 28, 3) := by decide +kernel
theorem d_Model_kindOf_33 : decode c_Model_kindOf 33 = .ok (.iload_n 1, 1) := by decide +kernel
theorem d_Model_kindOf_34 : decode c_Model_kindOf 34 = .ok (.iaload, 1) := by decide +kernel
theorem d_Model_kindOf_35 : decode c_Model_kindOf 35 = .ok (.iaload, 1) := by decide +kernel
theorem d_Model_kindOf_36 : decode c_Model_kindOf 36 = .ok (.bipush 48, 2) := by decide +kernel
theorem d_Model_kindOf_38 : decode c_Model_kindOf 38 = .ok (.isub, 1) := by decide +kernel
theorem d_Model_kindOf_39 : decode c_Model_kindOf 39 = .ok (.istore_n 2, 1) := by decide +kernel
theorem d_Model_kindOf_40 : decode c_Model_kindOf 40 = .ok (.iload_n 2, 1) := by decide +kernel
theorem d_Model_kindOf_41 : decode c_Model_kindOf 41 = .ok (.ifCond .lt 17, 3) := by decide +kernel
theorem d_Model_kindOf_44 : decode c_Model_kindOf 44 = .ok (.iload_n 2, 1) := by decide +kernel
theorem d_Model_kindOf_45 : decode c_Model_kindOf 45 = .ok (.iconst 3, 1) := by decide +kernel
theorem d_Model_kindOf_46 : decode c_Model_kindOf 46 = .ok (.if_icmp .gt 12, 3) := by decide +kernel
theorem d_Model_kindOf_49 : decode c_Model_kindOf 49 = .ok (.aload_n 0, 1) := by decide +kernel
theorem d_Model_kindOf_50 : decode c_Model_kindOf 50 = .ok (.getfield 34, 3) := by decide +kernel
theorem d_Model_kindOf_53 : decode c_Model_kindOf 53 = .ok (.iload_n 2, 1) := by decide +kernel
theorem d_Model_kindOf_54 : decode c_Model_kindOf 54 = .ok (.iaload, 1) := by decide +kernel
theorem d_Model_kindOf_55 : decode c_Model_kindOf 55 = .ok (.ifCond .ne 7, 3) := by decide +kernel
theorem d_Model_kindOf_58 : decode c_Model_kindOf 58 = .ok (.iconst (-1), 1) := by decide +kernel
theorem d_Model_kindOf_59 : decode c_Model_kindOf 59 = .ok (.goto 4, 3) := by decide +kernel
theorem d_Model_kindOf_62 : decode c_Model_kindOf 62 = .ok (.iload_n 2, 1) := by decide +kernel
theorem d_Model_kindOf_63 : decode c_Model_kindOf 63 = .ok (.ireturn, 1) := by decide +kernel
theorem d_Model_wrong_0 : decode c_Model_wrong 0 = .ok (.aload_n 0, 1) := by decide +kernel
theorem d_Model_wrong_1 : decode c_Model_wrong 1 = .ok (.iload_n 2, 1) := by decide +kernel
theorem d_Model_wrong_2 : decode c_Model_wrong 2 = .ok (.putfield 53, 3) := by decide +kernel
theorem d_Model_wrong_5 : decode c_Model_wrong 5 = .ok (.aload_n 0, 1) := by decide +kernel
theorem d_Model_wrong_6 : decode c_Model_wrong 6 = .ok (.iload_n 3, 1) := by decide +kernel
theorem d_Model_wrong_7 : decode c_Model_wrong 7 = .ok (.putfield 56, 3) := by decide +kernel
theorem d_Model_wrong_10 : decode c_Model_wrong 10 = .ok (.iload_n 1, 1) := by decide +kernel
theorem d_Model_wrong_11 : decode c_Model_wrong 11 = .ok (.ireturn, 1) := by decide +kernel
theorem d_Model_unknown_0 : decode c_Model_unknown 0 = .ok (.iconst 1, 1) := by decide +kernel
theorem d_Model_unknown_1 : decode c_Model_unknown 1 = .ok (.istore_n 2, 1) := by decide +kernel
theorem d_Model_unknown_2 : decode c_Model_unknown 2 = .ok (.iload_n 2, 1) := by decide +kernel
theorem d_Model_unknown_3 : decode c_Model_unknown 3 = .ok (.aload_n 0, 1) := by decide +kernel
theorem d_Model_unknown_4 : decode c_Model_unknown 4 = .ok (.getfield 106, 3) := by decide +kernel
theorem d_Model_unknown_7 : decode c_Model_unknown 7 = .ok (.iconst 1, 1) := by decide +kernel
theorem d_Model_unknown_8 : decode c_Model_unknown 8 = .ok (.isub, 1) := by decide +kernel
theorem d_Model_unknown_9 : decode c_Model_unknown 9 = .ok (.if_icmp .ge 60, 3) := by decide +kernel
theorem d_Model_unknown_12 : decode c_Model_unknown 12 = .ok (.iconst 0, 1) := by decide +kernel
theorem d_Model_unknown_13 : decode c_Model_unknown 13 = .ok (.istore_n 3, 1) := by decide +kernel
theorem d_Model_unknown_14 : decode c_Model_unknown 14 = .ok (.iconst 0, 1) := by decide +kernel
theorem d_Model_unknown_15 : decode c_Model_unknown 15 = .ok (.istore 4, 2) := by decide +kernel
theorem d_Model_unknown_17 : decode c_Model_unknown 17 = .ok (.iload 4, 2) := by decide +kernel
theorem d_Model_unknown_19 : decode c_Model_unknown 19 = .ok (.aload_n 0, 1) := by decide +kernel
theorem d_Model_unknown_20 : decode c_Model_unknown 20 = .ok (.getfield 34, 3) := by decide +kernel
theorem d_Model_unknown_23 : decode c_Model_unknown 23 = .ok (.iload_n 1, 1) := by decide +kernel
theorem d_Model_unknown_24 : decode c_Model_unknown 24 = .ok (.iaload, 1) := by decide +kernel
theorem d_Model_unknown_25 : decode c_Model_unknown 25 = .ok (.if_icmp .ge 32, 3) := by decide +kernel
theorem d_Model_unknown_28 : decode c_Model_unknown 28 = .ok (.aload_n 0, 1) := by decide +kernel
theorem d_Model_unknown_29 : decode c_Model_unknown 29 = .ok (.getfield 37, 3) := by decide +kernel
theorem d_Model_unknown_32 : decode c_Model_unknown 32 = .ok (.bipush 20, 2) := by decide +kernel
theorem d_Model_unknown_34 : decode c_Model_unknown 34 = .ok (.iload_n 1, 1) := by decide +kernel
theorem d_Model_unknown_35 : decode c_Model_unknown 35 = .ok (.imul, 1) := by decide +kernel
theorem d_Model_unknown_36 : decode c_Model_unknown 36 = .ok (.iload 4, 2) := by decide +kernel
theorem d_Model_unknown_38 : decode c_Model_unknown 38 = .ok (.iadd, 1) := by decide +kernel
theorem d_Model_unknown_39 : decode c_Model_unknown 39 = .ok (.iaload, 1) := by decide +kernel
theorem d_Model_unknown_40 : decode c_Model_unknown 40 = .ok (.aload_n 0, 1) := by decide +kernel
theorem d_Model_unknown_41 : decode c_Model_unknown 41 = .ok (.getfield 16, 3) := by decide +kernel
theorem d_Model_unknown_44 : decode c_Model_unknown 44 = .ok (.iload_n 2, 1) := by decide +kernel
theorem d_Model_unknown_45 : decode c_Model_unknown 45 = .ok (.iaload, 1) := by decide +kernel
theorem d_Model_unknown_46 : decode c_Model_unknown 46 = .ok (.if_icmp .ne 5, 3) := by decide +kernel
theorem d_Model_unknown_49 : decode c_Model_unknown 49 = .ok (.iconst 1, 1) := by decide +kernel
theorem d_Model_unknown_50 : decode c_Model_unknown 50 = .ok (.istore_n 3, 1) := by decide +kernel
theorem d_Model_unknown_51 : decode c_Model_unknown 51 = .ok (.iinc 4 1, 3) := by decide +kernel
theorem d_Model_unknown_54 : decode c_Model_unknown 54 = .ok (.goto (-37), 3) := by decide +kernel
theorem d_Model_unknown_57 : decode c_Model_unknown 57 = .ok (.iload_n 3, 1) := by decide +kernel
theorem d_Model_unknown_58 : decode c_Model_unknown 58 = .ok (.ifCond .ne 5, 3) := by decide +kernel
theorem d_Model_unknown_61 : decode c_Model_unknown 61 = .ok (.iload_n 2, 1) := by decide +kernel
theorem d_Model_unknown_62 : decode c_Model_unknown 62 = .ok (.ireturn, 1) := by decide +kernel
theorem d_Model_unknown_63 : decode c_Model_unknown 63 = .ok (.iinc 2 1, 3) := by decide +kernel
theorem d_Model_unknown_66 : decode c_Model_unknown 66 = .ok (.goto (-64), 3) := by decide +kernel
theorem d_Model_unknown_69 : decode c_Model_unknown 69 = .ok (.iconst (-1), 1) := by decide +kernel
theorem d_Model_unknown_70 : decode c_Model_unknown 70 = .ok (.ireturn, 1) := by decide +kernel
theorem d_Model_nextRow_0 : decode c_Model_nextRow 0 = .ok (.iload_n 2, 1) := by decide +kernel
theorem d_Model_nextRow_1 : decode c_Model_nextRow 1 = .ok (.iconst 1, 1) := by decide +kernel
theorem d_Model_nextRow_2 : decode c_Model_nextRow 2 = .ok (.iadd, 1) := by decide +kernel
theorem d_Model_nextRow_3 : decode c_Model_nextRow 3 = .ok (.istore 4, 2) := by decide +kernel
theorem d_Model_nextRow_5 : decode c_Model_nextRow 5 = .ok (.iload 4, 2) := by decide +kernel
theorem d_Model_nextRow_7 : decode c_Model_nextRow 7 = .ok (.aload_n 0, 1) := by decide +kernel
theorem d_Model_nextRow_8 : decode c_Model_nextRow 8 = .ok (.getfield 34, 3) := by decide +kernel
theorem d_Model_nextRow_11 : decode c_Model_nextRow 11 = .ok (.iload_n 1, 1) := by decide +kernel
theorem d_Model_nextRow_12 : decode c_Model_nextRow 12 = .ok (.iaload, 1) := by decide +kernel
theorem d_Model_nextRow_13 : decode c_Model_nextRow 13 = .ok (.if_icmp .ge 25, 3) := by decide +kernel
theorem d_Model_nextRow_16 : decode c_Model_nextRow 16 = .ok (.aload_n 0, 1) := by decide +kernel
theorem d_Model_nextRow_17 : decode c_Model_nextRow 17 = .ok (.getfield 46, 3) := by decide +kernel
theorem d_Model_nextRow_20 : decode c_Model_nextRow 20 = .ok (.bipush 20, 2) := by decide +kernel
theorem d_Model_nextRow_22 : decode c_Model_nextRow 22 = .ok (.iload_n 1, 1) := by decide +kernel
theorem d_Model_nextRow_23 : decode c_Model_nextRow 23 = .ok (.imul, 1) := by decide +kernel
theorem d_Model_nextRow_24 : decode c_Model_nextRow 24 = .ok (.iload 4, 2) := by decide +kernel
theorem d_Model_nextRow_26 : decode c_Model_nextRow 26 = .ok (.iadd, 1) := by decide +kernel
theorem d_Model_nextRow_27 : decode c_Model_nextRow 27 = .ok (.iaload, 1) := by decide +kernel
theorem d_Model_nextRow_28 : decode c_Model_nextRow 28 = .ok (.iload_n 3, 1) := by decide +kernel
theorem d_Model_nextRow_29 : decode c_Model_nextRow 29 = .ok (.if_icmp .le 9, 3) := by decide +kernel
theorem d_Model_nextRow_32 : decode c_Model_nextRow 32 = .ok (.iinc 4 1, 3) := by decide +kernel
theorem d_Model_nextRow_35 : decode c_Model_nextRow 35 = .ok (.goto (-30), 3) := by decide +kernel
theorem d_Model_nextRow_38 : decode c_Model_nextRow 38 = .ok (.iload 4, 2) := by decide +kernel
theorem d_Model_nextRow_40 : decode c_Model_nextRow 40 = .ok (.aload_n 0, 1) := by decide +kernel
theorem d_Model_nextRow_41 : decode c_Model_nextRow 41 = .ok (.getfield 34, 3) := by decide +kernel
theorem d_Model_nextRow_44 : decode c_Model_nextRow 44 = .ok (.iload_n 1, 1) := by decide +kernel
theorem d_Model_nextRow_45 : decode c_Model_nextRow 45 = .ok (.iaload, 1) := by decide +kernel
theorem d_Model_nextRow_46 : decode c_Model_nextRow 46 = .ok (.if_icmp .ge 24, 3) := by decide +kernel
theorem d_Model_nextRow_49 : decode c_Model_nextRow 49 = .ok (.aload_n 0, 1) := by decide +kernel
theorem d_Model_nextRow_50 : decode c_Model_nextRow 50 = .ok (.getfield 46, 3) := by decide +kernel
theorem d_Model_nextRow_53 : decode c_Model_nextRow 53 = .ok (.bipush 20, 2) := by decide +kernel
theorem d_Model_nextRow_55 : decode c_Model_nextRow 55 = .ok (.iload_n 1, 1) := by decide +kernel
theorem d_Model_nextRow_56 : decode c_Model_nextRow 56 = .ok (.imul, 1) := by decide +kernel
theorem d_Model_nextRow_57 : decode c_Model_nextRow 57 = .ok (.iload 4, 2) := by decide +kernel
theorem d_Model_nextRow_59 : decode c_Model_nextRow 59 = .ok (.iadd, 1) := by decide +kernel
theorem d_Model_nextRow_60 : decode c_Model_nextRow 60 = .ok (.iaload, 1) := by decide +kernel
theorem d_Model_nextRow_61 : decode c_Model_nextRow 61 = .ok (.iload_n 3, 1) := by decide +kernel
theorem d_Model_nextRow_62 : decode c_Model_nextRow 62 = .ok (.if_icmp .ne 8, 3) := by decide +kernel
theorem d_Model_nextRow_65 : decode c_Model_nextRow 65 = .ok (.iload 4, 2) := by decide +kernel
theorem d_Model_nextRow_67 : decode c_Model_nextRow 67 = .ok (.goto 4, 3) := by decide +kernel
theorem d_Model_nextRow_70 : decode c_Model_nextRow 70 = .ok (.iconst (-1), 1) := by decide +kernel
theorem d_Model_nextRow_71 : decode c_Model_nextRow 71 = .ok (.ireturn, 1) := by decide +kernel
theorem d_Model_walk_0 : decode c_Model_walk 0 = .ok (.iconst 0, 1) := by decide +kernel
theorem d_Model_walk_1 : decode c_Model_walk 1 = .ok (.istore_n 2, 1) := by decide +kernel
theorem d_Model_walk_2 : decode c_Model_walk 2 = .ok (.iconst 1, 1) := by decide +kernel
theorem d_Model_walk_3 : decode c_Model_walk 3 = .ok (.istore_n 3, 1) := by decide +kernel
theorem d_Model_walk_4 : decode c_Model_walk 4 = .ok (.aload_n 0, 1) := by decide +kernel
theorem d_Model_walk_5 : decode c_Model_walk 5 = .ok (.getfield 65, 3) := by decide +kernel
theorem d_Model_walk_8 : decode c_Model_walk 8 = .ok (.iconst 0, 1) := by decide +kernel
theorem d_Model_walk_9 : decode c_Model_walk 9 = .ok (.iconst 0, 1) := by decide +kernel
theorem d_Model_walk_10 : decode c_Model_walk 10 = .ok (.iastore, 1) := by decide +kernel
theorem d_Model_walk_11 : decode c_Model_walk 11 = .ok (.aload_n 0, 1) := by decide +kernel
theorem d_Model_walk_12 : decode c_Model_walk 12 = .ok (.getfield 68, 3) := by decide +kernel
theorem d_Model_walk_15 : decode c_Model_walk 15 = .ok (.iconst 0, 1) := by decide +kernel
theorem d_Model_walk_16 : decode c_Model_walk 16 = .ok (.iconst 0, 1) := by decide +kernel
