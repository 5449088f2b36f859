/-! that the data is what the tables say -/
theorem zc_0 : zchk zP zM_0 := ⟨by decide +kernel, by decide +kernel, by decide +kernel, [], by decide +kernel⟩
theorem zc_1 : zchk zP zM_1 := ⟨by decide +kernel, by decide +kernel, by decide +kernel, [], by decide +kernel⟩
theorem zc_2 : zchk zP zM_2 := ⟨by decide +kernel, by decide +kernel, by decide +kernel, [], by decide +kernel⟩
theorem zc_3 : zchk zP zM_3 := ⟨by decide +kernel, by decide +kernel, by decide +kernel, [], by decide +kernel⟩
theorem zc_4 : zchk zP zM_4 := ⟨by decide +kernel, by decide +kernel, by decide +kernel, [], by decide +kernel⟩
theorem zc_5 : zchk zP zM_5 := ⟨by decide +kernel, by decide +kernel, by decide +kernel, [], by decide +kernel⟩
theorem zc_6 : zchk zP zM_6 := ⟨by decide +kernel, by decide +kernel, by decide +kernel, [], by decide +kernel⟩
theorem zc_7 : zchk zP zM_7 := ⟨by decide +kernel, by decide +kernel, by decide +kernel, [210], by decide +kernel⟩
theorem zc_8 : zchk zP zM_8 := ⟨by decide +kernel, by decide +kernel, by decide +kernel, [], by decide +kernel⟩
theorem zc_9 : zchk zP zM_9 := ⟨by decide +kernel, by decide +kernel, by decide +kernel, [], by decide +kernel⟩
theorem zc_10 : zchk zP zM_10 := ⟨by decide +kernel, by decide +kernel, by decide +kernel, [], by decide +kernel⟩
theorem zc_11 : zchk zP zM_11 := ⟨by decide +kernel, by decide +kernel, by decide +kernel, [], by decide +kernel⟩
theorem zc_12 : zchk zP zM_12 := ⟨by decide +kernel, by decide +kernel, by decide +kernel, [], by decide +kernel⟩
theorem zc_13 : zchk zP zM_13 := ⟨by decide +kernel, by decide +kernel, by decide +kernel, [], by decide +kernel⟩
theorem zc_14 : zchk zP zM_14 := ⟨by decide +kernel, by decide +kernel, by decide +kernel, [], by decide +kernel⟩
theorem zc_15 : zchk zP zM_15 := ⟨by decide +kernel, by decide +kernel, by decide +kernel, [], by decide +kernel⟩
theorem zc_16 : zchk zP zM_16 := ⟨by decide +kernel, by decide +kernel, by decide +kernel, [], by decide +kernel⟩
theorem zc_17 : zchk zP zM_17 := ⟨by decide +kernel, by decide +kernel, by decide +kernel, [], by decide +kernel⟩
theorem zc_18 : zchk zP zM_18 := ⟨by decide +kernel, by decide +kernel, by decide +kernel, [], by decide +kernel⟩
theorem zc_19 : zchk zP zM_19 := ⟨by decide +kernel, by decide +kernel, by decide +kernel, [428, 210], by decide +kernel⟩
theorem zc_20 : zchk zP zM_20 := ⟨by decide +kernel, by decide +kernel, by decide +kernel, [], by decide +kernel⟩
theorem zc_21 : zchk zP zM_21 := ⟨by decide +kernel, by decide +kernel, by decide +kernel, [], by decide +kernel⟩
theorem zc_22 : zchk zP zM_22 := ⟨by decide +kernel, by decide +kernel, by decide +kernel, [], by decide +kernel⟩
theorem zc_23 : zchk zP zM_23 := ⟨by decide +kernel, by decide +kernel, by decide +kernel, [], by decide +kernel⟩
theorem zc_24 : zchk zP zM_24 := ⟨by decide +kernel, by decide +kernel, by decide +kernel, [], by decide +kernel⟩
theorem zc_25 : zchk zP zM_25 := ⟨by decide +kernel, by decide +kernel, by decide +kernel, [], by decide +kernel⟩
theorem zc_26 : zchk zP zM_26 := ⟨by decide +kernel, by decide +kernel, by decide +kernel, [], by decide +kernel⟩
theorem zc_27 : zchk zP zM_27 := ⟨by decide +kernel, by decide +kernel, by decide +kernel, [428, 501, 210], by decide +kernel⟩
theorem zc_28 : zchk zP zM_28 := ⟨by decide +kernel, by decide +kernel, by decide +kernel, [], by decide +kernel⟩
theorem zc_29 : zchk zP zM_29 := ⟨by decide +kernel, by decide +kernel, by decide +kernel, [], by decide +kernel⟩
theorem zc_30 : zchk zP zM_30 := ⟨by decide +kernel, by decide +kernel, by decide +kernel, [428, 501, 210, 597], by decide +kernel⟩
theorem zc_31 : zchk zP zM_31 := ⟨by decide +kernel, by decide +kernel, by decide +kernel, [], by decide +kernel⟩
theorem zc_32 : zchk zP zM_32 := ⟨by decide +kernel, by decide +kernel, by decide +kernel, [], by decide +kernel⟩
theorem zc_33 : zchk zP zM_33 := ⟨by decide +kernel, by decide +kernel, by decide +kernel, [428, 501, 210, 597, 630], by decide +kernel⟩
theorem zc_34 : zchk zP zM_34 := ⟨by decide +kernel, by decide +kernel, by decide +kernel, [], by decide +kernel⟩
theorem zc_35 : zchk zP zM_35 := ⟨by decide +kernel, by decide +kernel, by decide +kernel, [], by decide +kernel⟩
theorem zc_36 : zchk zP zM_36 := ⟨by decide +kernel, by decide +kernel, by decide +kernel, [428, 501, 210, 597, 630], by decide +kernel⟩
theorem zc_37 : zchk zP zM_37 := ⟨by decide +kernel, by decide +kernel, by decide +kernel, [], by decide +kernel⟩
theorem zc_38 : zchk zP zM_38 := ⟨by decide +kernel, by decide +kernel, by decide +kernel, [], by decide +kernel⟩
theorem zc_39 : zchk zP zM_39 := ⟨by decide +kernel, by decide +kernel, by decide +kernel, [428, 501, 210, 597], by decide +kernel⟩
theorem zc_40 : zchk zP zM_40 := ⟨by decide +kernel, by decide +kernel, by decide +kernel, [], by decide +kernel⟩
theorem zc_41 : zchk zP zM_41 := ⟨by decide +kernel, by decide +kernel, by decide +kernel, [], by decide +kernel⟩
theorem zc_42 : zchk zP zM_42 := ⟨by decide +kernel, by decide +kernel, by decide +kernel, [428, 501, 210, 597], by decide +kernel⟩
theorem zc_43 : zchk zP zM_43 := ⟨by decide +kernel, by decide +kernel, by decide +kernel, [], by decide +kernel⟩
theorem zc_44 : zchk zP zM_44 := ⟨by decide +kernel, by decide +kernel, by decide +kernel, [], by decide +kernel⟩
theorem zc_45 : zchk zP zM_45 := ⟨by decide +kernel, by decide +kernel, by decide +kernel, [428, 210, 630], by decide +kernel⟩
theorem zc_46 : zchk zP zM_46 := ⟨by decide +kernel, by decide +kernel, by decide +kernel, [], by decide +kernel⟩
theorem zc_47 : zchk zP zM_47 := ⟨by decide +kernel, by decide +kernel, by decide +kernel, [], by decide +kernel⟩
theorem zc_48 : zchk zP zM_48 := ⟨by decide +kernel, by decide +kernel, by decide +kernel, [428, 597], by decide +kernel⟩
theorem zc_49 : zchk zP zM_49 := ⟨by decide +kernel, by decide +kernel, by decide +kernel, [], by decide +kernel⟩
theorem zc_50 : zchk zP zM_50 := ⟨by decide +kernel, by decide +kernel, by decide +kernel, [], by decide +kernel⟩
theorem zc_51 : zchk zP zM_51 := ⟨by decide +kernel, by decide +kernel, by decide +kernel, [501, 597], by decide +kernel⟩
theorem zc_52 : zchk zP zM_52 := ⟨by decide +kernel, by decide +kernel, by decide +kernel, [], by decide +kernel⟩
theorem zc_53 : zchk zP zM_53 := ⟨by decide +kernel, by decide +kernel, by decide +kernel, [], by decide +kernel⟩
theorem zc_54 : zchk zP zM_54 := ⟨by decide +kernel, by decide +kernel, by decide +kernel, [], by decide +kernel⟩
theorem zc_55 : zchk zP zM_55 := ⟨by decide +kernel, by decide +kernel, by decide +kernel, [428, 501, 630], by decide +kernel⟩
theorem zc_56 : zchk zP zM_56 := ⟨by decide +kernel, by decide +kernel, by decide +kernel, [], by decide +kernel⟩
theorem zc_57 : zchk zP zM_57 := ⟨by decide +kernel, by decide +kernel, by decide +kernel, [], by decide +kernel⟩
theorem zc_58 : zchk zP zM_58 := ⟨by decide +kernel, by decide +kernel, by decide +kernel, [], by decide +kernel⟩
theorem zc_59 : zchk zP zM_59 := ⟨by decide +kernel, by decide +kernel, by decide +kernel, [], by decide +kernel⟩
theorem zc_60 : zchk zP zM_60 := ⟨by decide +kernel, by decide +kernel, by decide +kernel, [428, 210, 597], by decide +kernel⟩
theorem zc_61 : zchk zP zM_61 := ⟨by decide +kernel, by decide +kernel, by decide +kernel, [], by decide +kernel⟩
theorem zc_62 : zchk zP zM_62 := ⟨by decide +kernel, by decide +kernel, by decide +kernel, [], by decide +kernel⟩
theorem zc_63 : zchk zP zM_63 := ⟨by decide +kernel, by decide +kernel, by decide +kernel, [], by decide +kernel⟩
theorem zc_64 : zchk zP zM_64 := ⟨by decide +kernel, by decide +kernel, by decide +kernel, [], by decide +kernel⟩
theorem zc_65 : zchk zP zM_65 := ⟨by decide +kernel, by decide +kernel, by decide +kernel, [428, 210], by decide +kernel⟩
theorem zc_66 : zchk zP zM_66 := ⟨by decide +kernel, by decide +kernel, by decide +kernel, [], by decide +kernel⟩
theorem zc_67 : zchk zP zM_67 := ⟨by decide +kernel, by decide +kernel, by decide +kernel, [], by decide +kernel⟩
theorem zc_68 : zchk zP zM_68 := ⟨by decide +kernel, by decide +kernel, by decide +kernel, [], by decide +kernel⟩
theorem zc_69 : zchk zP zM_69 := ⟨by decide +kernel, by decide +kernel, by decide +kernel, [], by decide +kernel⟩
theorem zc_70 : zchk zP zM_70 := ⟨by decide +kernel, by decide +kernel, by decide +kernel, [428, 210, 630, 501], by decide +kernel⟩
theorem zc_71 : zchk zP zM_71 := ⟨by decide +kernel, by decide +kernel, by decide +kernel, [], by decide +kernel⟩
theorem zc_72 : zchk zP zM_72 := ⟨by decide +kernel, by decide +kernel, by decide +kernel, [], by decide +kernel⟩
theorem zc_73 : zchk zP zM_73 := ⟨by decide +kernel, by decide +kernel, by decide +kernel, [], by decide +kernel⟩
theorem zc_74 : zchk zP zM_74 := ⟨by decide +kernel, by decide +kernel, by decide +kernel, [428, 210, 630, 597], by decide +kernel⟩
theorem zc_75 : zchk zP zM_75 := ⟨by decide +kernel, by decide +kernel, by decide +kernel, [], by decide +kernel⟩
theorem zc_76 : zchk zP zM_76 := ⟨by decide +kernel, by decide +kernel, by decide +kernel, [], by decide +kernel⟩
theorem zc_77 : zchk zP zM_77 := ⟨by decide +kernel, by decide +kernel, by decide +kernel, [428, 210], by decide +kernel⟩
theorem zc_78 : zchk zP zM_78 := ⟨by decide +kernel, by decide +kernel, by decide +kernel, [], by decide +kernel⟩
theorem zc_79 : zchk zP zM_79 := ⟨by decide +kernel, by decide +kernel, by decide +kernel, [], by decide +kernel⟩
theorem zc_80 : zchk zP zM_80 := ⟨by decide +kernel, by decide +kernel, by decide +kernel, [428, 210, 630], by decide +kernel⟩
theorem zc_81 : zchk zP zM_81 := ⟨by decide +kernel, by decide +kernel, by decide +kernel, [], by decide +kernel⟩
theorem zc_82 : zchk zP zM_82 := ⟨by decide +kernel, by decide +kernel, by decide +kernel, [], by decide +kernel⟩
theorem zc_83 : zchk zP zM_83 := ⟨by decide +kernel, by decide +kernel, by decide +kernel, [428, 210, 597], by decide +kernel⟩
theorem zc_84 : zchk zP zM_84 := ⟨by decide +kernel, by decide +kernel, by decide +kernel, [], by decide +kernel⟩
theorem zc_85 : zchk zP zM_85 := ⟨by decide +kernel, by decide +kernel, by decide +kernel, [], by decide +kernel⟩
theorem zc_86 : zchk zP zM_86 := ⟨by decide +kernel, by decide +kernel, by decide +kernel, [428, 501, 210, 597], by decide +kernel⟩
theorem zc_87 : zchk zP zM_87 := ⟨by decide +kernel, by decide +kernel, by decide +kernel, [], by decide +kernel⟩
theorem zc_88 : zchk zP zM_88 := ⟨by decide +kernel, by decide +kernel, by decide +kernel, [], by decide +kernel⟩
theorem zc_89 : zchk zP zM_89 := ⟨by decide +kernel, by decide +kernel, by decide +kernel, [428, 210, 597], by decide +kernel⟩
theorem zc_90 : zchk zP zM_90 := ⟨by decide +kernel, by decide +kernel, by decide +kernel, [], by decide +kernel⟩
theorem zc_91 : zchk zP zM_91 := ⟨by decide +kernel, by decide +kernel, by decide +kernel, [], by decide +kernel⟩
theorem zc_92 : zchk zP zM_92 := ⟨by decide +kernel, by decide +kernel, by decide +kernel, [428, 210], by decide +kernel⟩
theorem zc_93 : zchk zP zM_93 := ⟨by decide +kernel, by decide +kernel, by decide +kernel, [], by decide +kernel⟩
theorem zc_94 : zchk zP zM_94 := ⟨by decide +kernel, by decide +kernel, by decide +kernel, [], by decide +kernel⟩
theorem zc_95 : zchk zP zM_95 := ⟨by decide +kernel, by decide +kernel, by decide +kernel, [428], by decide +kernel⟩
theorem zc_96 : zchk zP zM_96 := ⟨by decide +kernel, by decide +kernel, by decide +kernel, [], by decide +kernel⟩
theorem zc_97 : zchk zP zM_97 := ⟨by decide +kernel, by decide +kernel, by decide +kernel, [], by decide +kernel⟩
theorem zc_98 : zchk zP zM_98 := ⟨by decide +kernel, by decide +kernel, by decide +kernel, [428], by decide +kernel⟩
theorem zc_99 : zchk zP zM_99 := ⟨by decide +kernel, by decide +kernel, by decide +kernel, [], by decide +kernel⟩
theorem zc_100 : zchk zP zM_100 := ⟨by decide +kernel, by decide +kernel, by decide +kernel, [], by decide +kernel⟩
theorem zc_101 : zchk zP zM_101 := ⟨by decide +kernel, by decide +kernel, by decide +kernel, [], by decide +kernel⟩
theorem zc_102 : zchk zP zM_102 := ⟨by decide +kernel, by decide +kernel, by decide +kernel, [428, 597], by decide +kernel⟩
theorem zc_103 : zchk zP zM_103 := ⟨by decide +kernel, by decide +kernel, by decide +kernel, [], by decide +kernel⟩
theorem zc_104 : zchk zP zM_104 := ⟨by decide +kernel, by decide +kernel, by decide +kernel, [], by decide +kernel⟩
theorem zc_105 : zchk zP zM_105 := ⟨by decide +kernel, by decide +kernel, by decide +kernel, [428], by decide +kernel⟩
theorem zc_106 : zchk zP zM_106 := ⟨by decide +kernel, by decide +kernel, by decide +kernel, [], by decide +kernel⟩
theorem zc_107 : zchk zP zM_107 := ⟨by decide +kernel, by decide +kernel, by decide +kernel, [], by decide +kernel⟩
theorem zc_108 : zchk zP zM_108 := ⟨by decide +kernel, by decide +kernel, by decide +kernel, [428, 210], by decide +kernel⟩
theorem zc_109 : zchk zP zM_109 := ⟨by decide +kernel, by decide +kernel, by decide +kernel, [], by decide +kernel⟩
theorem zc_110 : zchk zP zM_110 := ⟨by decide +kernel, by decide +kernel, by decide +kernel, [], by decide +kernel⟩
theorem zc_111 : zchk zP zM_111 := ⟨by decide +kernel, by decide +kernel, by decide +kernel, [428], by decide +kernel⟩
theorem zc_112 : zchk zP zM_112 := ⟨by decide +kernel, by decide +kernel, by decide +kernel, [], by decide +kernel⟩
theorem zc_113 : zchk zP zM_113 := ⟨by decide +kernel, by decide +kernel, by decide +kernel, [], by decide +kernel⟩
theorem zc_114 : zchk zP zM_114 := ⟨by decide +kernel, by decide +kernel, by decide +kernel, [428, 597], by decide +kernel⟩
theorem zc_115 : zchk zP zM_115 := ⟨by decide +kernel, by decide +kernel, by decide +kernel, [], by decide +kernel⟩
theorem zc_116 : zchk zP zM_116 := ⟨by decide +kernel, by decide +kernel, by decide +kernel, [], by decide +kernel⟩
theorem zc_117 : zchk zP zM_117 := ⟨by decide +kernel, by decide +kernel, by decide +kernel, [], by decide +kernel⟩
theorem zc_118 : zchk zP zM_118 := ⟨by decide +kernel, by decide +kernel, by decide +kernel, [428, 597], by decide +kernel⟩
theorem zc_119 : zchk zP zM_119 := ⟨by decide +kernel, by decide +kernel, by decide +kernel, [], by decide +kernel⟩
theorem zc_120 : zchk zP zM_120 := ⟨by decide +kernel, by decide +kernel, by decide +kernel, [], by decide +kernel⟩
theorem zc_121 : zchk zP zM_121 := ⟨by decide +kernel, by decide +kernel, by decide +kernel, [], by decide +kernel⟩
theorem zc_122 : zchk zP zM_122 := ⟨by decide +kernel, by decide +kernel, by decide +kernel, [], by decide +kernel⟩
theorem zc_123 : zchk zP zM_123 := ⟨by decide +kernel, by decide +kernel, by decide +kernel, [428, 210], by decide +kernel⟩
theorem zc_124 : zchk zP zM_124 := ⟨by decide +kernel, by decide +kernel, by decide +kernel, [], by decide +kernel⟩
theorem zc_125 : zchk zP zM_125 := ⟨by decide +kernel, by decide +kernel, by decide +kernel, [], by decide +kernel⟩
theorem zc_126 : zchk zP zM_126 := ⟨by decide +kernel, by decide +kernel, by decide +kernel, [], by decide +kernel⟩
theorem zc_127 : zchk zP zM_127 := ⟨by decide +kernel, by decide +kernel, by decide +kernel, [], by decide +kernel⟩
theorem zc_128 : zchk zP zM_128 := ⟨by decide +kernel, by decide +kernel, by decide +kernel, [428, 210], by decide +kernel⟩
theorem zc_129 : zchk zP zM_129 := ⟨by decide +kernel, by decide +kernel, by decide +kernel, [], by decide +kernel⟩
theorem zc_130 : zchk zP zM_130 := ⟨by decide +kernel, by decide +kernel, by decide +kernel, [], by decide +kernel⟩
theorem zc_131 : zchk zP zM_131 := ⟨by decide +kernel, by decide +kernel, by decide +kernel, [], by decide +kernel⟩
theorem zc_132 : zchk zP zM_132 := ⟨by decide +kernel, by decide +kernel, by decide +kernel, [428, 210], by decide +kernel⟩
theorem zc_133 : zchk zP zM_133 := ⟨by decide +kernel, by decide +kernel, by decide +kernel, [], by decide +kernel⟩
theorem zc_134 : zchk zP zM_134 := ⟨by decide +kernel, by decide +kernel, by decide +kernel, [], by decide +kernel⟩
theorem zc_135 : zchk zP zM_135 := ⟨by decide +kernel, by decide +kernel, by decide +kernel, [428, 210], by decide +kernel⟩
theorem zc_136 : zchk zP zM_136 := ⟨by decide +kernel, by decide +kernel, by decide +kernel, [], by decide +kernel⟩
theorem zc_137 : zchk zP zM_137 := ⟨by decide +kernel, by decide +kernel, by decide +kernel, [], by decide +kernel⟩
theorem zc_138 : zchk zP zM_138 := ⟨by decide +kernel, by decide +kernel, by decide +kernel, [428, 501, 597], by decide +kernel⟩
theorem zc_139 : zchk zP zM_139 := ⟨by decide +kernel, by decide +kernel, by decide +kernel, [], by decide +kernel⟩
theorem zc_140 : zchk zP zM_140 := ⟨by decide +kernel, by decide +kernel, by decide +kernel, [], by decide +kernel⟩
theorem zc_141 : zchk zP zM_141 := ⟨by decide +kernel, by decide +kernel, by decide +kernel, [], by decide +kernel⟩
theorem zc_142 : zchk zP zM_142 := ⟨by decide +kernel, by decide +kernel, by decide +kernel, [], by decide +kernel⟩
theorem zc_143 : zchk zP zM_143 := ⟨by decide +kernel, by decide +kernel, by decide +kernel, [], by decide +kernel⟩
theorem zc_144 : zchk zP zM_144 := ⟨by decide +kernel, by decide +kernel, by decide +kernel, [], by decide +kernel⟩
theorem zc_145 : zchk zP zM_145 := ⟨by decide +kernel, by decide +kernel, by decide +kernel, [428, 501, 597], by decide +kernel⟩
theorem zc_146 : zchk zP zM_146 := ⟨by decide +kernel, by decide +kernel, by decide +kernel, [], by decide +kernel⟩
theorem zc_147 : zchk zP zM_147 := ⟨by decide +kernel, by decide +kernel, by decide +kernel, [], by decide +kernel⟩
theorem zc_148 : zchk zP zM_148 := ⟨by decide +kernel, by decide +kernel, by decide +kernel, [], by decide +kernel⟩
theorem zc_149 : zchk zP zM_149 := ⟨by decide +kernel, by decide +kernel, by decide +kernel, [428, 501, 597], by decide +kernel⟩
theorem zc_150 : zchk zP zM_150 := ⟨by decide +kernel, by decide +kernel, by decide +kernel, [], by decide +kernel⟩
theorem zc_151 : zchk zP zM_151 := ⟨by decide +kernel, by decide +kernel, by decide +kernel, [501], by decide +kernel⟩
theorem zc_152 : zchk zP zM_152 := ⟨by decide +kernel, by decide +kernel, by decide +kernel, [], by decide +kernel⟩
theorem zc_153 : zchk zP zM_153 := ⟨by decide +kernel, by decide +kernel, by decide +kernel, [], by decide +kernel⟩
theorem zc_154 : zchk zP zM_154 := ⟨by decide +kernel, by decide +kernel, by decide +kernel, [501], by decide +kernel⟩
theorem zc_155 : zchk zP zM_155 := ⟨by decide +kernel, by decide +kernel, by decide +kernel, [], by decide +kernel⟩
theorem zc_156 : zchk zP zM_156 := ⟨by decide +kernel, by decide +kernel, by decide +kernel, [], by decide +kernel⟩
theorem zc_157 : zchk zP zM_157 := ⟨by decide +kernel, by decide +kernel, by decide +kernel, [501], by decide +kernel⟩
theorem zc_158 : zchk zP zM_158 := ⟨by decide +kernel, by decide +kernel, by decide +kernel, [], by decide +kernel⟩
theorem zc_159 : zchk zP zM_159 := ⟨by decide +kernel, by decide +kernel, by decide +kernel, [], by decide +kernel⟩
theorem zc_160 : zchk zP zM_160 := ⟨by decide +kernel, by decide +kernel, by decide +kernel, [428], by decide +kernel⟩
theorem zc_161 : zchk zP zM_161 := ⟨by decide +kernel, by decide +kernel, by decide +kernel, [], by decide +kernel⟩
theorem zc_162 : zchk zP zM_162 := ⟨by decide +kernel, by decide +kernel, by decide +kernel, [], by decide +kernel⟩
theorem zc_163 : zchk zP zM_163 := ⟨by decide +kernel, by decide +kernel, by decide +kernel, [428, 210], by decide +kernel⟩
theorem zc_164 : zchk zP zM_164 := ⟨by decide +kernel, by decide +kernel, by decide +kernel, [], by decide +kernel⟩
theorem zc_165 : zchk zP zM_165 := ⟨by decide +kernel, by decide +kernel, by decide +kernel, [], by decide +kernel⟩
theorem zc_166 : zchk zP zM_166 := ⟨by decide +kernel, by decide +kernel, by decide +kernel, [501], by decide +kernel⟩
theorem zc_167 : zchk zP zM_167 := ⟨by decide +kernel, by decide +kernel, by decide +kernel, [], by decide +kernel⟩
theorem zc_168 : zchk zP zM_168 := ⟨by decide +kernel, by decide +kernel, by decide +kernel, [], by decide +kernel⟩
theorem zc_169 : zchk zP zM_169 := ⟨by decide +kernel, by decide +kernel, by decide +kernel, [], by decide +kernel⟩
theorem zc_170 : zchk zP zM_170 := ⟨by decide +kernel, by decide +kernel, by decide +kernel, [], by decide +kernel⟩
theorem zc_171 : zchk zP zM_171 := ⟨by decide +kernel, by decide +kernel, by decide +kernel, [], by decide +kernel⟩
theorem zc_172 : zchk zP zM_172 := ⟨by decide +kernel, by decide +kernel, by decide +kernel, [501, 1483], by decide +kernel⟩
theorem zc_173 : zchk zP zM_173 := ⟨by decide +kernel, by decide +kernel, by decide +kernel, [], by decide +kernel⟩
theorem zc_174 : zchk zP zM_174 := ⟨by decide +kernel, by decide +kernel, by decide +kernel, [], by decide +kernel⟩
theorem zc_175 : zchk zP zM_175 := ⟨by decide +kernel, by decide +kernel, by decide +kernel, [1483], by decide +kernel⟩
theorem zc_176 : zchk zP zM_176 := ⟨by decide +kernel, by decide +kernel, by decide +kernel, [], by decide +kernel⟩
theorem zc_177 : zchk zP zM_177 := ⟨by decide +kernel, by decide +kernel, by decide +kernel, [], by decide +kernel⟩
theorem zc_178 : zchk zP zM_178 := ⟨by decide +kernel, by decide +kernel, by decide +kernel, [428], by decide +kernel⟩
theorem zc_179 : zchk zP zM_179 := ⟨by decide +kernel, by decide +kernel, by decide +kernel, [], by decide +kernel⟩
theorem zc_180 : zchk zP zM_180 := ⟨by decide +kernel, by decide +kernel, by decide +kernel, [], by decide +kernel⟩
set_option maxRecDepth 100000 in
theorem zc_a : zchk zP zMa := ⟨by decide +kernel, by decide +kernel, by decide +kernel, [], by decide +kernel⟩
theorem zMb_eq : zm_code zMb = zMb_0 ++ (zMb_1 ++ (zMb_2 ++ (zMb_3 ++ (zMb_4 ++ (zMb_5 ++ (zMb_6 ++ (zMb_7 ++ (zMb_8 ++ (zMb_9 ++ (zMb_10 ++ (zMb_11 ++ (zMb_12 ++ (zMb_13 ++ (zMb_14 ++ (zMb_15 ++ (zMb_16 ++ (zMb_17 ++ (zMb_18 ++ (zMb_19 ++ (zMb_20 ++ (zMb_21 ++ (zMb_22 ++ (zMb_23 ++ (zMb_24 ++ (zMb_25 ++ (zMb_26 ++ (zMb_27 ++ (zMb_28 ++ (zMb_29 ++ (zMb_30 ++ (zMb_31 ++ (zMb_32 ++ (zMb_33 ++ (zMb_34 ++ (zMb_35 ++ (zMb_36 ++ (zMb_37 ++ (zMb_38 ++ (zMb_39 ++ (zMb_40 ++ (zMb_41 ++ (zMb_42 ++ (zMb_43 ++ (zMb_44 ++ (zMb_45 ++ (zMb_46 ++ (zMb_47 ++ (zMb_48 ++ (zMb_49 ++ (zMb_50 ++ (zMb_51 ++ (zMb_52 ++ (zMb_53 ++ (zMb_54 ++ (zMb_55))))))))))))))))))))))))))))))))))))))))))))))))))))))) := by rfl
theorem zcb_0 : ∀ i ∈ zMb_0, zchkI zP zMb i = true := by decide +kernel
theorem zcb_1 : ∀ i ∈ zMb_1, zchkI zP zMb i = true := by decide +kernel
theorem zcb_2 : ∀ i ∈ zMb_2, zchkI zP zMb i = true := by decide +kernel
theorem zcb_3 : ∀ i ∈ zMb_3, zchkI zP zMb i = true := by decide +kernel
theorem zcb_4 : ∀ i ∈ zMb_4, zchkI zP zMb i = true := by decide +kernel
theorem zcb_5 : ∀ i ∈ zMb_5, zchkI zP zMb i = true := by decide +kernel
theorem zcb_6 : ∀ i ∈ zMb_6, zchkI zP zMb i = true := by decide +kernel
theorem zcb_7 : ∀ i ∈ zMb_7, zchkI zP zMb i = true := by decide +kernel
theorem zcb_8 : ∀ i ∈ zMb_8, zchkI zP zMb i = true := by decide +kernel
theorem zcb_9 : ∀ i ∈ zMb_9, zchkI zP zMb i = true := by decide +kernel
theorem zcb_10 : ∀ i ∈ zMb_10, zchkI zP zMb i = true := by decide +kernel
theorem zcb_11 : ∀ i ∈ zMb_11, zchkI zP zMb i = true := by decide +kernel
theorem zcb_12 : ∀ i ∈ zMb_12, zchkI zP zMb i = true := by decide +kernel
theorem zcb_13 : ∀ i ∈ zMb_13, zchkI zP zMb i = true := by decide +kernel
theorem zcb_14 : ∀ i ∈ zMb_14, zchkI zP zMb i = true := by decide +kernel
theorem zcb_15 : ∀ i ∈ zMb_15, zchkI zP zMb i = true := by decide +kernel
theorem zcb_16 : ∀ i ∈ zMb_16, zchkI zP zMb i = true := by decide +kernel
theorem zcb_17 : ∀ i ∈ zMb_17, zchkI zP zMb i = true := by decide +kernel
theorem zcb_18 : ∀ i ∈ zMb_18, zchkI zP zMb i = true := by decide +kernel
theorem zcb_19 : ∀ i ∈ zMb_19, zchkI zP zMb i = true := by decide +kernel
theorem zcb_20 : ∀ i ∈ zMb_20, zchkI zP zMb i = true := by decide +kernel
theorem zcb_21 : ∀ i ∈ zMb_21, zchkI zP zMb i = true := by decide +kernel
theorem zcb_22 : ∀ i ∈ zMb_22, zchkI zP zMb i = true := by decide +kernel
theorem zcb_23 : ∀ i ∈ zMb_23, zchkI zP zMb i = true := by decide +kernel
theorem zcb_24 : ∀ i ∈ zMb_24, zchkI zP zMb i = true := by decide +kernel
theorem zcb_25 : ∀ i ∈ zMb_25, zchkI zP zMb i = true := by decide +kernel
theorem zcb_26 : ∀ i ∈ zMb_26, zchkI zP zMb i = true := by decide +kernel
theorem zcb_27 : ∀ i ∈ zMb_27, zchkI zP zMb i = true := by decide +kernel
theorem zcb_28 : ∀ i ∈ zMb_28, zchkI zP zMb i = true := by decide +kernel
theorem zcb_29 : ∀ i ∈ zMb_29, zchkI zP zMb i = true := by decide +kernel
theorem zcb_30 : ∀ i ∈ zMb_30, zchkI zP zMb i = true := by decide +kernel
theorem zcb_31 : ∀ i ∈ zMb_31, zchkI zP zMb i = true := by decide +kernel
theorem zcb_32 : ∀ i ∈ zMb_32, zchkI zP zMb i = true := by decide +kernel
theorem zcb_33 : ∀ i ∈ zMb_33, zchkI zP zMb i = true := by decide +kernel
theorem zcb_34 : ∀ i ∈ zMb_34, zchkI zP zMb i = true := by decide +kernel
theorem zcb_35 : ∀ i ∈ zMb_35, zchkI zP zMb i = true := by decide +kernel
theorem zcb_36 : ∀ i ∈ zMb_36, zchkI zP zMb i = true := by decide +kernel
theorem zcb_37 : ∀ i ∈ zMb_37, zchkI zP zMb i = true := by decide +kernel
theorem zcb_38 : ∀ i ∈ zMb_38, zchkI zP zMb i = true := by decide +kernel
theorem zcb_39 : ∀ i ∈ zMb_39, zchkI zP zMb i = true := by decide +kernel
theorem zcb_40 : ∀ i ∈ zMb_40, zchkI zP zMb i = true := by decide +kernel
theorem zcb_41 : ∀ i ∈ zMb_41, zchkI zP zMb i = true := by decide +kernel
theorem zcb_42 : ∀ i ∈ zMb_42, zchkI zP zMb i = true := by decide +kernel
theorem zcb_43 : ∀ i ∈ zMb_43, zchkI zP zMb i = true := by decide +kernel
theorem zcb_44 : ∀ i ∈ zMb_44, zchkI zP zMb i = true := by decide +kernel
theorem zcb_45 : ∀ i ∈ zMb_45, zchkI zP zMb i = true := by decide +kernel
theorem zcb_46 : ∀ i ∈ zMb_46, zchkI zP zMb i = true := by decide +kernel
theorem zcb_47 : ∀ i ∈ zMb_47, zchkI zP zMb i = true := by decide +kernel
theorem zcb_48 : ∀ i ∈ zMb_48, zchkI zP zMb i = true := by decide +kernel
theorem zcb_49 : ∀ i ∈ zMb_49, zchkI zP zMb i = true := by decide +kernel
theorem zcb_50 : ∀ i ∈ zMb_50, zchkI zP zMb i = true := by decide +kernel
theorem zcb_51 : ∀ i ∈ zMb_51, zchkI zP zMb i = true := by decide +kernel
theorem zcb_52 : ∀ i ∈ zMb_52, zchkI zP zMb i = true := by decide +kernel
theorem zcb_53 : ∀ i ∈ zMb_53, zchkI zP zMb i = true := by decide +kernel
theorem zcb_54 : ∀ i ∈ zMb_54, zchkI zP zMb i = true := by decide +kernel
theorem zcb_55 : ∀ i ∈ zMb_55, zchkI zP zMb i = true := by decide +kernel
theorem zcb : ∀ i ∈ zm_code zMb, zchkI zP zMb i = true := by
  rw [zMb_eq]
  exact List.forall_mem_append.mpr ⟨zcb_0, List.forall_mem_append.mpr ⟨zcb_1, List.forall_mem_append.mpr ⟨zcb_2, List.forall_mem_append.mpr ⟨zcb_3, List.forall_mem_append.mpr ⟨zcb_4, List.forall_mem_append.mpr ⟨zcb_5, List.forall_mem_append.mpr ⟨zcb_6, List.forall_mem_append.mpr ⟨zcb_7, List.forall_mem_append.mpr ⟨zcb_8, List.forall_mem_append.mpr ⟨zcb_9, List.forall_mem_append.mpr ⟨zcb_10, List.forall_mem_append.mpr ⟨zcb_11, List.forall_mem_append.mpr ⟨zcb_12, List.forall_mem_append.mpr ⟨zcb_13, List.forall_mem_append.mpr ⟨zcb_14, List.forall_mem_append.mpr ⟨zcb_15, List.forall_mem_append.mpr ⟨zcb_16, List.forall_mem_append.mpr ⟨zcb_17, List.forall_mem_append.mpr ⟨zcb_18, List.forall_mem_append.mpr ⟨zcb_19, List.forall_mem_append.mpr ⟨zcb_20, List.forall_mem_append.mpr ⟨zcb_21, List.forall_mem_append.mpr ⟨zcb_22, List.forall_mem_append.mpr ⟨zcb_23, List.forall_mem_append.mpr ⟨zcb_24, List.forall_mem_append.mpr ⟨zcb_25, List.forall_mem_append.mpr ⟨zcb_26, List.forall_mem_append.mpr ⟨zcb_27, List.forall_mem_append.mpr ⟨zcb_28, List.forall_mem_append.mpr ⟨zcb_29, List.forall_mem_append.mpr ⟨zcb_30, List.forall_mem_append.mpr ⟨zcb_31, List.forall_mem_append.mpr ⟨zcb_32, List.forall_mem_append.mpr ⟨zcb_33, List.forall_mem_append.mpr ⟨zcb_34, List.forall_mem_append.mpr ⟨zcb_35, List.forall_mem_append.mpr ⟨zcb_36, List.forall_mem_append.mpr ⟨zcb_37, List.forall_mem_append.mpr ⟨zcb_38, List.forall_mem_append.mpr ⟨zcb_39, List.forall_mem_append.mpr ⟨zcb_40, List.forall_mem_append.mpr ⟨zcb_41, List.forall_mem_append.mpr ⟨zcb_42, List.forall_mem_append.mpr ⟨zcb_43, List.forall_mem_append.mpr ⟨zcb_44, List.forall_mem_append.mpr ⟨zcb_45, List.forall_mem_append.mpr ⟨zcb_46, List.forall_mem_append.mpr ⟨zcb_47, List.forall_mem_append.mpr ⟨zcb_48, List.forall_mem_append.mpr ⟨zcb_49, List.forall_mem_append.mpr ⟨zcb_50, List.forall_mem_append.mpr ⟨zcb_51, List.forall_mem_append.mpr ⟨zcb_52, List.forall_mem_append.mpr ⟨zcb_53, List.forall_mem_append.mpr ⟨zcb_54, zcb_55⟩⟩⟩⟩⟩⟩⟩⟩⟩⟩⟩⟩⟩⟩⟩⟩⟩⟩⟩⟩⟩⟩⟩⟩⟩⟩⟩⟩⟩⟩⟩⟩⟩⟩⟩⟩⟩⟩⟩⟩⟩⟩⟩⟩⟩⟩⟩⟩⟩⟩⟩⟩⟩⟩⟩
theorem zc_b : zchk zP zMb := ⟨zcb, by decide +kernel, by decide +kernel, [], by decide +kernel⟩
set_option maxRecDepth 100000 in
theorem zc_P : ∀ M ∈ zP, zchk zP M := List.forall_mem_cons.mpr ⟨zc_0, List.forall_mem_cons.mpr ⟨zc_1, List.forall_mem_cons.mpr ⟨zc_2, List.forall_mem_cons.mpr ⟨zc_3, List.forall_mem_cons.mpr ⟨zc_4, List.forall_mem_cons.mpr ⟨zc_5, List.forall_mem_cons.mpr ⟨zc_6, List.forall_mem_cons.mpr ⟨zc_7, List.forall_mem_cons.mpr ⟨zc_8, List.forall_mem_cons.mpr ⟨zc_9, List.forall_mem_cons.mpr ⟨zc_10, List.forall_mem_cons.mpr ⟨zc_11, List.forall_mem_cons.mpr ⟨zc_12, List.forall_mem_cons.mpr ⟨zc_13, List.forall_mem_cons.mpr ⟨zc_14, List.forall_mem_cons.mpr ⟨zc_15, List.forall_mem_cons.mpr ⟨zc_16, List.forall_mem_cons.mpr ⟨zc_17, List.forall_mem_cons.mpr ⟨zc_18, List.forall_mem_cons.mpr ⟨zc_19, List.forall_mem_cons.mpr ⟨zc_20, List.forall_mem_cons.mpr ⟨zc_21, List.forall_mem_cons.mpr ⟨zc_22, List.forall_mem_cons.mpr ⟨zc_23, List.forall_mem_cons.mpr ⟨zc_24, List.forall_mem_cons.mpr ⟨zc_25, List.forall_mem_cons.mpr ⟨zc_26, List.forall_mem_cons.mpr ⟨zc_27, List.forall_mem_cons.mpr ⟨zc_28, List.forall_mem_cons.mpr ⟨zc_29, List.forall_mem_cons.mpr ⟨zc_30, List.forall_mem_cons.mpr ⟨zc_31, List.forall_mem_cons.mpr ⟨zc_32, List.forall_mem_cons.mpr ⟨zc_33, List.forall_mem_cons.mpr ⟨zc_34, List.forall_mem_cons.mpr ⟨zc_35, List.forall_mem_cons.mpr ⟨zc_36, List.forall_mem_cons.mpr ⟨zc_37, List.forall_mem_cons.mpr ⟨zc_38, List.forall_mem_cons.mpr ⟨zc_39, List.forall_mem_cons.mpr ⟨zc_40, List.forall_mem_cons.mpr ⟨zc_41, List.forall_mem_cons.mpr ⟨zc_42, List.forall_mem_cons.mpr ⟨zc_43, List.forall_mem_cons.mpr ⟨zc_44, List.forall_mem_cons.mpr ⟨zc_45, List.forall_mem_cons.mpr ⟨zc_46, List.forall_mem_cons.mpr ⟨zc_47, List.forall_mem_cons.mpr ⟨zc_48, List.forall_mem_cons.mpr ⟨zc_49, List.forall_mem_cons.mpr ⟨zc_50, List.forall_mem_cons.mpr ⟨zc_51, List.forall_mem_cons.mpr ⟨zc_52, List.forall_mem_cons.mpr ⟨zc_53, List.forall_mem_cons.mpr ⟨zc_54, List.forall_mem_cons.mpr ⟨zc_55, List.forall_mem_cons.mpr ⟨zc_56, List.forall_mem_cons.mpr ⟨zc_57, List.forall_mem_cons.mpr ⟨zc_58, List.forall_mem_cons.mpr ⟨zc_59, List.forall_mem_cons.mpr ⟨zc_60, List.forall_mem_cons.mpr ⟨zc_61, List.forall_mem_cons.mpr ⟨zc_62, List.forall_mem_cons.mpr ⟨zc_63, List.forall_mem_cons.mpr ⟨zc_64, List.forall_mem_cons.mpr ⟨zc_65, List.forall_mem_cons.mpr ⟨zc_66, List.forall_mem_cons.mpr ⟨zc_67, List.forall_mem_cons.mpr ⟨zc_68, List.forall_mem_cons.mpr ⟨zc_69, List.forall_mem_cons.mpr ⟨zc_70, List.forall_mem_cons.mpr ⟨zc_71, List.forall_mem_cons.mpr ⟨zc_72, List.forall_mem_cons.mpr ⟨zc_73, List.forall_mem_cons.mpr ⟨zc_74, List.forall_mem_cons.mpr ⟨zc_75, List.forall_mem_cons.mpr ⟨zc_76, List.forall_mem_cons.mpr ⟨zc_77, List.forall_mem_cons.mpr ⟨zc_78, List.forall_mem_cons.mpr ⟨zc_79, List.forall_mem_cons.mpr ⟨zc_80, List.forall_mem_cons.mpr ⟨zc_81, List.forall_mem_cons.mpr ⟨zc_82, List.forall_mem_cons.mpr ⟨zc_83, List.forall_mem_cons.mpr ⟨zc_84, List.forall_mem_cons.mpr ⟨zc_85, List.forall_mem_cons.mpr ⟨zc_86, List.forall_mem_cons.mpr ⟨zc_87, List.forall_mem_cons.mpr ⟨zc_88, List.forall_mem_cons.mpr ⟨zc_89, List.forall_mem_cons.mpr ⟨zc_90, List.forall_mem_cons.mpr ⟨zc_91, List.forall_mem_cons.mpr ⟨zc_92, List.forall_mem_cons.mpr ⟨zc_93, List.forall_mem_cons.mpr ⟨zc_94, List.forall_mem_cons.mpr ⟨zc_95, List.forall_mem_cons.mpr ⟨zc_96, List.forall_mem_cons.mpr ⟨zc_97, List.forall_mem_cons.mpr ⟨zc_98, List.forall_mem_cons.mpr ⟨zc_99, List.forall_mem_cons.mpr ⟨zc_100, List.forall_mem_cons.mpr ⟨zc_101, List.forall_mem_cons.mpr ⟨zc_102, List.forall_mem_cons.mpr ⟨zc_103, List.forall_mem_cons.mpr ⟨zc_104, List.forall_mem_cons.mpr ⟨zc_105, List.forall_mem_cons.mpr ⟨zc_106, List.forall_mem_cons.mpr ⟨zc_107, List.forall_mem_cons.mpr ⟨zc_108, List.forall_mem_cons.mpr ⟨zc_109, List.forall_mem_cons.mpr ⟨zc_110, List.forall_mem_cons.mpr ⟨zc_111, List.forall_mem_cons.mpr ⟨zc_112, List.forall_mem_cons.mpr ⟨zc_113, List.forall_mem_cons.mpr ⟨zc_114, List.forall_mem_cons.mpr ⟨zc_115, List.forall_mem_cons.mpr ⟨zc_116, List.forall_mem_cons.mpr ⟨zc_117, List.forall_mem_cons.mpr ⟨zc_118, List.forall_mem_cons.mpr ⟨zc_119, List.forall_mem_cons.mpr ⟨zc_120, List.forall_mem_cons.mpr ⟨zc_121, List.forall_mem_cons.mpr ⟨zc_122, List.forall_mem_cons.mpr ⟨zc_123, List.forall_mem_cons.mpr ⟨zc_124, List.forall_mem_cons.mpr ⟨zc_125, List.forall_mem_cons.mpr ⟨zc_126, List.forall_mem_cons.mpr ⟨zc_127, List.forall_mem_cons.mpr ⟨zc_128, List.forall_mem_cons.mpr ⟨zc_129, List.forall_mem_cons.mpr ⟨zc_130, List.forall_mem_cons.mpr ⟨zc_131, List.forall_mem_cons.mpr ⟨zc_132, List.forall_mem_cons.mpr ⟨zc_133, List.forall_mem_cons.mpr ⟨zc_134, List.forall_mem_cons.mpr ⟨zc_135, List.forall_mem_cons.mpr ⟨zc_136, List.forall_mem_cons.mpr ⟨zc_137, List.forall_mem_cons.mpr ⟨zc_138, List.forall_mem_cons.mpr ⟨zc_139, List.forall_mem_cons.mpr ⟨zc_140, List.forall_mem_cons.mpr ⟨zc_141, List.forall_mem_cons.mpr ⟨zc_142, List.forall_mem_cons.mpr ⟨zc_143, List.forall_mem_cons.mpr ⟨zc_144, List.forall_mem_cons.mpr ⟨zc_145, List.forall_mem_cons.mpr ⟨zc_146, List.forall_mem_cons.mpr ⟨zc_147, List.forall_mem_cons.mpr ⟨zc_148, List.forall_mem_cons.mpr ⟨zc_149, List.forall_mem_cons.mpr ⟨zc_150, List.forall_mem_cons.mpr ⟨zc_151, List.forall_mem_cons.mpr ⟨zc_152, List.forall_mem_cons.mpr ⟨zc_153, List.forall_mem_cons.mpr ⟨zc_154, List.forall_mem_cons.mpr ⟨zc_155, List.forall_mem_cons.mpr ⟨zc_156, List.forall_mem_cons.mpr ⟨zc_157, List.forall_mem_cons.mpr ⟨zc_158, List.forall_mem_cons.mpr ⟨zc_159, List.forall_mem_cons.mpr ⟨zc_160, List.forall_mem_cons.mpr ⟨zc_161, List.forall_mem_cons.mpr ⟨zc_162, List.forall_mem_cons.mpr ⟨zc_163, List.forall_mem_cons.mpr ⟨zc_164, List.forall_mem_cons.mpr ⟨zc_165, List.forall_mem_cons.mpr ⟨zc_166, List.forall_mem_cons.mpr ⟨zc_167, List.forall_mem_cons.mpr ⟨zc_168, List.forall_mem_cons.mpr ⟨zc_169, List.forall_mem_cons.mpr ⟨zc_170, List.forall_mem_cons.mpr ⟨zc_171, List.forall_mem_cons.mpr ⟨zc_172, List.forall_mem_cons.mpr ⟨zc_173, List.forall_mem_cons.mpr ⟨zc_174, List.forall_mem_cons.mpr ⟨zc_175, List.forall_mem_cons.mpr ⟨zc_176, List.forall_mem_cons.mpr ⟨zc_177, List.forall_mem_cons.mpr ⟨zc_178, List.forall_mem_cons.mpr ⟨zc_179, List.forall_mem_cons.mpr ⟨zc_180, fun _ h => absurd h List.not_mem_nil⟩⟩⟩⟩⟩⟩⟩⟩⟩⟩⟩⟩⟩⟩⟩⟩⟩⟩⟩⟩⟩⟩⟩⟩⟩⟩⟩⟩⟩⟩⟩⟩⟩⟩⟩⟩⟩⟩⟩⟩⟩⟩⟩⟩⟩⟩⟩⟩⟩⟩⟩⟩⟩⟩⟩⟩⟩⟩⟩⟩⟩⟩⟩⟩⟩⟩⟩⟩⟩⟩⟩⟩⟩⟩⟩⟩⟩⟩⟩⟩⟩⟩⟩⟩⟩⟩⟩⟩⟩⟩⟩⟩⟩⟩⟩⟩⟩⟩⟩⟩⟩⟩⟩⟩⟩⟩⟩⟩⟩⟩⟩⟩⟩⟩⟩⟩⟩⟩⟩⟩⟩⟩⟩⟩⟩⟩⟩⟩⟩⟩⟩⟩⟩⟩⟩⟩⟩⟩⟩⟩⟩⟩⟩⟩⟩⟩⟩⟩⟩⟩⟩⟩⟩⟩⟩⟩⟩⟩⟩⟩⟩⟩⟩⟩⟩⟩⟩⟩⟩⟩⟩⟩⟩⟩⟩⟩⟩⟩⟩⟩⟩
