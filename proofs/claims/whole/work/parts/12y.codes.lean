def am_cwp (me : am_ME) : Prop := me.1 = 17 ∨ ∃ p : Nat, lw_tbl[p]? = some (Cond.code me.2.1 me.2.2.1 me.2.2.2.1 me.2.2.2.2.1)
set_option maxRecDepth 100000 in
theorem am_cw0 : am_cwp me_0 := Or.inr ⟨152, rfl⟩
set_option maxRecDepth 100000 in
theorem am_cw1 : am_cwp me_1 := Or.inr ⟨160, rfl⟩
set_option maxRecDepth 100000 in
theorem am_cw2 : am_cwp me_2 := Or.inr ⟨164, rfl⟩
set_option maxRecDepth 100000 in
theorem am_cw3 : am_cwp me_3 := Or.inr ⟨193, rfl⟩
set_option maxRecDepth 100000 in
theorem am_cw4 : am_cwp me_4 := Or.inr ⟨233, rfl⟩
set_option maxRecDepth 100000 in
theorem am_cw5 : am_cwp me_5 := Or.inr ⟨249, rfl⟩
set_option maxRecDepth 100000 in
theorem am_cw6 : am_cwp me_6 := Or.inr ⟨270, rfl⟩
set_option maxRecDepth 100000 in
theorem am_cw7 : am_cwp me_7 := Or.inr ⟨275, rfl⟩
set_option maxRecDepth 100000 in
theorem am_cw8 : am_cwp me_8 := Or.inr ⟨280, rfl⟩
set_option maxRecDepth 100000 in
theorem am_cw9 : am_cwp me_9 := Or.inr ⟨283, rfl⟩
set_option maxRecDepth 100000 in
theorem am_cw10 : am_cwp me_10 := Or.inr ⟨352, rfl⟩
set_option maxRecDepth 100000 in
theorem am_cw11 : am_cwp me_11 := Or.inr ⟨400, rfl⟩
set_option maxRecDepth 100000 in
theorem am_cw12 : am_cwp me_12 := Or.inr ⟨426, rfl⟩
set_option maxRecDepth 100000 in
theorem am_cw13 : am_cwp me_13 := Or.inr ⟨470, rfl⟩
set_option maxRecDepth 100000 in
theorem am_cw14 : am_cwp me_14 := Or.inr ⟨496, rfl⟩
set_option maxRecDepth 100000 in
theorem am_cw15 : am_cwp me_15 := Or.inr ⟨540, rfl⟩
set_option maxRecDepth 100000 in
theorem am_cw16 : am_cwp me_16 := Or.inr ⟨601, rfl⟩
set_option maxRecDepth 100000 in
theorem am_cw17 : am_cwp me_17 := Or.inr ⟨605, rfl⟩
set_option maxRecDepth 100000 in
theorem am_cw18 : am_cwp me_18 := Or.inr ⟨609, rfl⟩
set_option maxRecDepth 100000 in
theorem am_cw19 : am_cwp me_19 := Or.inr ⟨613, rfl⟩
set_option maxRecDepth 100000 in
theorem am_cw20 : am_cwp me_20 := Or.inr ⟨617, rfl⟩
set_option maxRecDepth 100000 in
theorem am_cw21 : am_cwp me_21 := Or.inr ⟨621, rfl⟩
set_option maxRecDepth 100000 in
theorem am_cw22 : am_cwp me_22 := Or.inr ⟨625, rfl⟩
set_option maxRecDepth 100000 in
theorem am_cw23 : am_cwp me_23 := Or.inr ⟨629, rfl⟩
set_option maxRecDepth 100000 in
theorem am_cw24 : am_cwp me_24 := Or.inr ⟨632, rfl⟩
set_option maxRecDepth 100000 in
theorem am_cw25 : am_cwp me_25 := Or.inr ⟨636, rfl⟩
set_option maxRecDepth 100000 in
theorem am_cw26 : am_cwp me_26 := Or.inr ⟨640, rfl⟩
set_option maxRecDepth 100000 in
theorem am_cw27 : am_cwp me_27 := Or.inr ⟨643, rfl⟩
set_option maxRecDepth 100000 in
theorem am_cw28 : am_cwp me_28 := Or.inr ⟨646, rfl⟩
set_option maxRecDepth 100000 in
theorem am_cw29 : am_cwp me_29 := Or.inr ⟨650, rfl⟩
set_option maxRecDepth 100000 in
theorem am_cw30 : am_cwp me_30 := Or.inr ⟨658, rfl⟩
set_option maxRecDepth 100000 in
theorem am_cw31 : am_cwp me_31 := Or.inr ⟨662, rfl⟩
set_option maxRecDepth 100000 in
theorem am_cw32 : am_cwp me_32 := Or.inr ⟨666, rfl⟩
set_option maxRecDepth 100000 in
theorem am_cw33 : am_cwp me_33 := Or.inr ⟨671, rfl⟩
set_option maxRecDepth 100000 in
theorem am_cw34 : am_cwp me_34 := Or.inr ⟨675, rfl⟩
set_option maxRecDepth 100000 in
theorem am_cw35 : am_cwp me_35 := Or.inr ⟨679, rfl⟩
set_option maxRecDepth 100000 in
theorem am_cw36 : am_cwp me_36 := Or.inr ⟨683, rfl⟩
set_option maxRecDepth 100000 in
theorem am_cw37 : am_cwp me_37 := Or.inr ⟨687, rfl⟩
set_option maxRecDepth 100000 in
theorem am_cw38 : am_cwp me_38 := Or.inr ⟨691, rfl⟩
set_option maxRecDepth 100000 in
theorem am_cw39 : am_cwp me_39 := Or.inr ⟨695, rfl⟩
set_option maxRecDepth 100000 in
theorem am_cw40 : am_cwp me_40 := Or.inr ⟨700, rfl⟩
set_option maxRecDepth 100000 in
theorem am_cw41 : am_cwp me_41 := Or.inr ⟨704, rfl⟩
set_option maxRecDepth 100000 in
theorem am_cw42 : am_cwp me_42 := Or.inr ⟨708, rfl⟩
set_option maxRecDepth 100000 in
theorem am_cw43 : am_cwp me_43 := Or.inr ⟨712, rfl⟩
set_option maxRecDepth 100000 in
theorem am_cw44 : am_cwp me_44 := Or.inr ⟨716, rfl⟩
set_option maxRecDepth 100000 in
theorem am_cw45 : am_cwp me_45 := Or.inr ⟨719, rfl⟩
set_option maxRecDepth 100000 in
theorem am_cw46 : am_cwp me_46 := Or.inr ⟨723, rfl⟩
set_option maxRecDepth 100000 in
theorem am_cw47 : am_cwp me_47 := Or.inr ⟨727, rfl⟩
set_option maxRecDepth 100000 in
theorem am_cw48 : am_cwp me_48 := Or.inr ⟨731, rfl⟩
set_option maxRecDepth 100000 in
theorem am_cw49 : am_cwp me_49 := Or.inr ⟨735, rfl⟩
set_option maxRecDepth 100000 in
theorem am_cw50 : am_cwp me_50 := Or.inr ⟨739, rfl⟩
set_option maxRecDepth 100000 in
theorem am_cw51 : am_cwp me_51 := Or.inr ⟨743, rfl⟩
set_option maxRecDepth 100000 in
theorem am_cw52 : am_cwp me_52 := Or.inr ⟨747, rfl⟩
set_option maxRecDepth 100000 in
theorem am_cw53 : am_cwp me_53 := Or.inr ⟨751, rfl⟩
set_option maxRecDepth 100000 in
theorem am_cw54 : am_cwp me_54 := Or.inr ⟨756, rfl⟩
set_option maxRecDepth 100000 in
theorem am_cw55 : am_cwp me_55 := Or.inr ⟨760, rfl⟩
set_option maxRecDepth 100000 in
theorem am_cw56 : am_cwp me_56 := Or.inr ⟨764, rfl⟩
set_option maxRecDepth 100000 in
theorem am_cw57 : am_cwp me_57 := Or.inr ⟨768, rfl⟩
set_option maxRecDepth 100000 in
theorem am_cw58 : am_cwp me_58 := Or.inr ⟨772, rfl⟩
set_option maxRecDepth 100000 in
theorem am_cw59 : am_cwp me_59 := Or.inr ⟨776, rfl⟩
set_option maxRecDepth 100000 in
theorem am_cw60 : am_cwp me_60 := Or.inr ⟨779, rfl⟩
set_option maxRecDepth 100000 in
theorem am_cw61 : am_cwp me_61 := Or.inr ⟨782, rfl⟩
set_option maxRecDepth 100000 in
theorem am_cw62 : am_cwp me_62 := Or.inr ⟨786, rfl⟩
set_option maxRecDepth 100000 in
theorem am_cw63 : am_cwp me_63 := Or.inr ⟨790, rfl⟩
set_option maxRecDepth 100000 in
theorem am_cw64 : am_cwp me_64 := Or.inr ⟨794, rfl⟩
set_option maxRecDepth 100000 in
theorem am_cw65 : am_cwp me_65 := Or.inr ⟨798, rfl⟩
set_option maxRecDepth 100000 in
theorem am_cw66 : am_cwp me_66 := Or.inr ⟨802, rfl⟩
set_option maxRecDepth 100000 in
theorem am_cw67 : am_cwp me_67 := Or.inr ⟨806, rfl⟩
set_option maxRecDepth 100000 in
theorem am_cw68 : am_cwp me_68 := Or.inr ⟨810, rfl⟩
set_option maxRecDepth 100000 in
theorem am_cw69 : am_cwp me_69 := Or.inr ⟨814, rfl⟩
set_option maxRecDepth 100000 in
theorem am_cw70 : am_cwp me_70 := Or.inr ⟨818, rfl⟩
set_option maxRecDepth 100000 in
theorem am_cw71 : am_cwp me_71 := Or.inr ⟨822, rfl⟩
set_option maxRecDepth 100000 in
theorem am_cw72 : am_cwp me_72 := Or.inr ⟨827, rfl⟩
set_option maxRecDepth 100000 in
theorem am_cw73 : am_cwp me_73 := Or.inr ⟨831, rfl⟩
set_option maxRecDepth 100000 in
theorem am_cw74 : am_cwp me_74 := Or.inr ⟨836, rfl⟩
set_option maxRecDepth 100000 in
theorem am_cw75 : am_cwp me_75 := Or.inr ⟨840, rfl⟩
set_option maxRecDepth 100000 in
theorem am_cw76 : am_cwp me_76 := Or.inr ⟨843, rfl⟩
set_option maxRecDepth 100000 in
theorem am_cw77 : am_cwp me_77 := Or.inr ⟨846, rfl⟩
set_option maxRecDepth 100000 in
theorem am_cw78 : am_cwp me_78 := Or.inr ⟨850, rfl⟩
set_option maxRecDepth 100000 in
theorem am_cw79 : am_cwp me_79 := Or.inr ⟨854, rfl⟩
set_option maxRecDepth 100000 in
theorem am_cw80 : am_cwp me_80 := Or.inr ⟨858, rfl⟩
set_option maxRecDepth 100000 in
theorem am_cw81 : am_cwp me_81 := Or.inr ⟨862, rfl⟩
set_option maxRecDepth 100000 in
theorem am_cw82 : am_cwp me_82 := Or.inr ⟨867, rfl⟩
set_option maxRecDepth 100000 in
theorem am_cw83 : am_cwp me_83 := Or.inr ⟨872, rfl⟩
set_option maxRecDepth 100000 in
theorem am_cw84 : am_cwp me_84 := Or.inr ⟨876, rfl⟩
set_option maxRecDepth 100000 in
theorem am_cw85 : am_cwp me_85 := Or.inr ⟨880, rfl⟩
set_option maxRecDepth 100000 in
theorem am_cw86 : am_cwp me_86 := Or.inr ⟨884, rfl⟩
set_option maxRecDepth 100000 in
theorem am_cw87 : am_cwp me_87 := Or.inr ⟨891, rfl⟩
set_option maxRecDepth 100000 in
theorem am_cw88 : am_cwp me_88 := Or.inr ⟨895, rfl⟩
set_option maxRecDepth 100000 in
theorem am_cw89 : am_cwp me_89 := Or.inr ⟨898, rfl⟩
set_option maxRecDepth 100000 in
theorem am_cw90 : am_cwp me_90 := Or.inr ⟨903, rfl⟩
set_option maxRecDepth 100000 in
theorem am_cw91 : am_cwp me_91 := Or.inr ⟨907, rfl⟩
set_option maxRecDepth 100000 in
theorem am_cw92 : am_cwp me_92 := Or.inr ⟨911, rfl⟩
set_option maxRecDepth 100000 in
theorem am_cw93 : am_cwp me_93 := Or.inr ⟨915, rfl⟩
set_option maxRecDepth 100000 in
theorem am_cw94 : am_cwp me_94 := Or.inr ⟨919, rfl⟩
set_option maxRecDepth 100000 in
theorem am_cw95 : am_cwp me_95 := Or.inr ⟨923, rfl⟩
set_option maxRecDepth 100000 in
theorem am_cw96 : am_cwp me_96 := Or.inr ⟨927, rfl⟩
set_option maxRecDepth 100000 in
theorem am_cw97 : am_cwp me_97 := Or.inr ⟨931, rfl⟩
set_option maxRecDepth 100000 in
theorem am_cw98 : am_cwp me_98 := Or.inr ⟨935, rfl⟩
set_option maxRecDepth 100000 in
theorem am_cw99 : am_cwp me_99 := Or.inr ⟨940, rfl⟩
set_option maxRecDepth 100000 in
theorem am_cw100 : am_cwp me_100 := Or.inr ⟨946, rfl⟩
set_option maxRecDepth 100000 in
theorem am_cw101 : am_cwp me_101 := Or.inr ⟨950, rfl⟩
set_option maxRecDepth 100000 in
theorem am_cw102 : am_cwp me_102 := Or.inr ⟨954, rfl⟩
set_option maxRecDepth 100000 in
theorem am_cw103 : am_cwp me_103 := Or.inr ⟨958, rfl⟩
set_option maxRecDepth 100000 in
theorem am_cw104 : am_cwp me_104 := Or.inr ⟨963, rfl⟩
set_option maxRecDepth 100000 in
theorem am_cw105 : am_cwp me_105 := Or.inr ⟨968, rfl⟩
set_option maxRecDepth 100000 in
theorem am_cw106 : am_cwp me_106 := Or.inr ⟨972, rfl⟩
set_option maxRecDepth 100000 in
theorem am_cw107 : am_cwp me_107 := Or.inr ⟨977, rfl⟩
set_option maxRecDepth 100000 in
theorem am_cw108 : am_cwp me_108 := Or.inr ⟨981, rfl⟩
set_option maxRecDepth 100000 in
theorem am_cw109 : am_cwp me_109 := Or.inr ⟨987, rfl⟩
set_option maxRecDepth 100000 in
theorem am_cw110 : am_cwp me_110 := Or.inr ⟨991, rfl⟩
set_option maxRecDepth 100000 in
theorem am_cw111 : am_cwp me_111 := Or.inr ⟨996, rfl⟩
set_option maxRecDepth 100000 in
theorem am_cw112 : am_cwp me_112 := Or.inr ⟨1002, rfl⟩
set_option maxRecDepth 100000 in
theorem am_cw113 : am_cwp me_113 := Or.inr ⟨1007, rfl⟩
set_option maxRecDepth 100000 in
theorem am_cw114 : am_cwp me_114 := Or.inr ⟨1011, rfl⟩
set_option maxRecDepth 100000 in
theorem am_cw115 : am_cwp me_115 := Or.inr ⟨1015, rfl⟩
set_option maxRecDepth 100000 in
theorem am_cw116 : am_cwp me_116 := Or.inr ⟨1019, rfl⟩
set_option maxRecDepth 100000 in
theorem am_cw117 : am_cwp me_117 := Or.inr ⟨1024, rfl⟩
set_option maxRecDepth 100000 in
theorem am_cw118 : am_cwp me_118 := Or.inr ⟨1028, rfl⟩
set_option maxRecDepth 100000 in
theorem am_cw119 : am_cwp me_119 := Or.inr ⟨1034, rfl⟩
set_option maxRecDepth 100000 in
theorem am_cw120 : am_cwp me_120 := Or.inr ⟨1038, rfl⟩
set_option maxRecDepth 100000 in
theorem am_cw121 : am_cwp me_121 := Or.inr ⟨1042, rfl⟩
set_option maxRecDepth 100000 in
theorem am_cw122 : am_cwp me_122 := Or.inr ⟨1047, rfl⟩
set_option maxRecDepth 100000 in
theorem am_cw123 : am_cwp me_123 := Or.inr ⟨1051, rfl⟩
set_option maxRecDepth 100000 in
theorem am_cw124 : am_cwp me_124 := Or.inr ⟨1058, rfl⟩
set_option maxRecDepth 100000 in
theorem am_cw125 : am_cwp me_125 := Or.inr ⟨1062, rfl⟩
set_option maxRecDepth 100000 in
theorem am_cw126 : am_cwp me_126 := Or.inr ⟨1066, rfl⟩
set_option maxRecDepth 100000 in
theorem am_cw127 : am_cwp me_127 := Or.inr ⟨1070, rfl⟩
set_option maxRecDepth 100000 in
theorem am_cw128 : am_cwp me_128 := Or.inr ⟨1074, rfl⟩
set_option maxRecDepth 100000 in
theorem am_cw129 : am_cwp me_129 := Or.inr ⟨1078, rfl⟩
set_option maxRecDepth 100000 in
theorem am_cw130 : am_cwp me_130 := Or.inr ⟨1084, rfl⟩
set_option maxRecDepth 100000 in
theorem am_cw131 : am_cwp me_131 := Or.inr ⟨1093, rfl⟩
set_option maxRecDepth 100000 in
theorem am_cw132 : am_cwp me_132 := Or.inr ⟨1097, rfl⟩
set_option maxRecDepth 100000 in
theorem am_cw133 : am_cwp me_133 := Or.inr ⟨1102, rfl⟩
set_option maxRecDepth 100000 in
theorem am_cw134 : am_cwp me_134 := Or.inr ⟨1106, rfl⟩
set_option maxRecDepth 100000 in
theorem am_cw135 : am_cwp me_135 := Or.inr ⟨1110, rfl⟩
set_option maxRecDepth 100000 in
theorem am_cw136 : am_cwp me_136 := Or.inr ⟨1117, rfl⟩
set_option maxRecDepth 100000 in
theorem am_cw137 : am_cwp me_137 := Or.inr ⟨1124, rfl⟩
set_option maxRecDepth 100000 in
theorem am_cw138 : am_cwp me_138 := Or.inr ⟨1128, rfl⟩
set_option maxRecDepth 100000 in
theorem am_cw139 : am_cwp me_139 := Or.inr ⟨1132, rfl⟩
set_option maxRecDepth 100000 in
theorem am_cw140 : am_cwp me_140 := Or.inr ⟨1138, rfl⟩
set_option maxRecDepth 100000 in
theorem am_cw141 : am_cwp me_141 := Or.inr ⟨1143, rfl⟩
set_option maxRecDepth 100000 in
theorem am_cw142 : am_cwp me_142 := Or.inr ⟨1147, rfl⟩
set_option maxRecDepth 100000 in
theorem am_cw143 : am_cwp me_143 := Or.inr ⟨1151, rfl⟩
set_option maxRecDepth 100000 in
theorem am_cw144 : am_cwp me_144 := Or.inr ⟨1155, rfl⟩
set_option maxRecDepth 100000 in
theorem am_cw145 : am_cwp me_145 := Or.inr ⟨1159, rfl⟩
set_option maxRecDepth 100000 in
theorem am_cw146 : am_cwp me_146 := Or.inr ⟨1163, rfl⟩
set_option maxRecDepth 100000 in
theorem am_cw147 : am_cwp me_147 := Or.inr ⟨1167, rfl⟩
set_option maxRecDepth 100000 in
theorem am_cw148 : am_cwp me_148 := Or.inr ⟨1171, rfl⟩
set_option maxRecDepth 100000 in
theorem am_cw149 : am_cwp me_149 := Or.inr ⟨1174, rfl⟩
set_option maxRecDepth 100000 in
theorem am_cw150 : am_cwp me_150 := Or.inr ⟨1181, rfl⟩
set_option maxRecDepth 100000 in
theorem am_cw151 : am_cwp me_151 := Or.inr ⟨1189, rfl⟩
set_option maxRecDepth 100000 in
theorem am_cw152 : am_cwp me_152 := Or.inr ⟨1193, rfl⟩
set_option maxRecDepth 100000 in
theorem am_cw153 : am_cwp me_153 := Or.inr ⟨1198, rfl⟩
set_option maxRecDepth 100000 in
theorem am_cw154 : am_cwp me_154 := Or.inr ⟨1202, rfl⟩
set_option maxRecDepth 100000 in
theorem am_cw155 : am_cwp me_155 := Or.inr ⟨1206, rfl⟩
set_option maxRecDepth 100000 in
theorem am_cw156 : am_cwp me_156 := Or.inr ⟨1213, rfl⟩
set_option maxRecDepth 100000 in
theorem am_cw157 : am_cwp me_157 := Or.inr ⟨1217, rfl⟩
set_option maxRecDepth 100000 in
theorem am_cw158 : am_cwp me_158 := Or.inr ⟨1221, rfl⟩
set_option maxRecDepth 100000 in
theorem am_cw159 : am_cwp me_159 := Or.inr ⟨1230, rfl⟩
set_option maxRecDepth 100000 in
theorem am_cw160 : am_cwp me_160 := Or.inr ⟨1234, rfl⟩
set_option maxRecDepth 100000 in
theorem am_cw161 : am_cwp me_161 := Or.inr ⟨1238, rfl⟩
set_option maxRecDepth 100000 in
theorem am_cw162 : am_cwp me_162 := Or.inr ⟨1245, rfl⟩
set_option maxRecDepth 100000 in
theorem am_cw163 : am_cwp me_163 := Or.inr ⟨1249, rfl⟩
set_option maxRecDepth 100000 in
theorem am_cw164 : am_cwp me_164 := Or.inr ⟨1253, rfl⟩
set_option maxRecDepth 100000 in
theorem am_cw165 : am_cwp me_165 := Or.inr ⟨1257, rfl⟩
set_option maxRecDepth 100000 in
theorem am_cw166 : am_cwp me_166 := Or.inr ⟨1263, rfl⟩
set_option maxRecDepth 100000 in
theorem am_cw167 : am_cwp me_167 := Or.inr ⟨1268, rfl⟩
set_option maxRecDepth 100000 in
theorem am_cw168 : am_cwp me_168 := Or.inr ⟨1272, rfl⟩
set_option maxRecDepth 100000 in
theorem am_cw169 : am_cwp me_169 := Or.inr ⟨1275, rfl⟩
set_option maxRecDepth 100000 in
theorem am_cw170 : am_cwp me_170 := Or.inr ⟨1279, rfl⟩
set_option maxRecDepth 100000 in
theorem am_cw171 : am_cwp me_171 := Or.inr ⟨1283, rfl⟩
set_option maxRecDepth 100000 in
theorem am_cw172 : am_cwp me_172 := Or.inr ⟨1287, rfl⟩
set_option maxRecDepth 100000 in
theorem am_cw173 : am_cwp me_173 := Or.inr ⟨1292, rfl⟩
set_option maxRecDepth 100000 in
theorem am_cw174 : am_cwp me_174 := Or.inr ⟨1296, rfl⟩
set_option maxRecDepth 100000 in
theorem am_cw175 : am_cwp me_175 := Or.inr ⟨1300, rfl⟩
set_option maxRecDepth 100000 in
theorem am_cw176 : am_cwp me_176 := Or.inr ⟨1304, rfl⟩
set_option maxRecDepth 100000 in
theorem am_cw177 : am_cwp me_177 := Or.inr ⟨1308, rfl⟩
set_option maxRecDepth 100000 in
theorem am_cw178 : am_cwp me_178 := Or.inr ⟨1312, rfl⟩
set_option maxRecDepth 100000 in
theorem am_cw179 : am_cwp me_179 := Or.inr ⟨1317, rfl⟩
set_option maxRecDepth 100000 in
theorem am_cw180 : am_cwp me_180 := Or.inr ⟨1321, rfl⟩
set_option maxRecDepth 100000 in
theorem am_cw181 : am_cwp me_181 := Or.inr ⟨1325, rfl⟩
set_option maxRecDepth 100000 in
theorem am_cw182 : am_cwp me_182 := Or.inr ⟨1330, rfl⟩
set_option maxRecDepth 100000 in
theorem am_cw183 : am_cwp me_183 := Or.inr ⟨1335, rfl⟩
set_option maxRecDepth 100000 in
theorem am_cw184 : am_cwp me_184 := Or.inr ⟨1339, rfl⟩
set_option maxRecDepth 100000 in
theorem am_cw185 : am_cwp me_185 := Or.inr ⟨1343, rfl⟩
set_option maxRecDepth 100000 in
theorem am_cw186 : am_cwp me_186 := Or.inr ⟨1347, rfl⟩
set_option maxRecDepth 100000 in
theorem am_cw187 : am_cwp me_187 := Or.inr ⟨1354, rfl⟩
set_option maxRecDepth 100000 in
theorem am_cw188 : am_cwp me_188 := Or.inr ⟨1359, rfl⟩
set_option maxRecDepth 100000 in
theorem am_cw189 : am_cwp me_189 := Or.inr ⟨1363, rfl⟩
set_option maxRecDepth 100000 in
theorem am_cw190 : am_cwp me_190 := Or.inr ⟨1640, rfl⟩
set_option maxRecDepth 100000 in
theorem am_cw191 : am_cwp me_191 := Or.inr ⟨1644, rfl⟩
set_option maxRecDepth 100000 in
theorem am_cw192 : am_cwp me_192 := Or.inr ⟨1648, rfl⟩
set_option maxRecDepth 100000 in
theorem am_cw193 : am_cwp me_193 := Or.inr ⟨1652, rfl⟩
set_option maxRecDepth 100000 in
theorem am_cw194 : am_cwp me_194 := Or.inr ⟨1656, rfl⟩
set_option maxRecDepth 100000 in
theorem am_cw195 : am_cwp me_195 := Or.inr ⟨1660, rfl⟩
set_option maxRecDepth 100000 in
theorem am_cw196 : am_cwp me_196 := Or.inr ⟨1664, rfl⟩
set_option maxRecDepth 100000 in
theorem am_cw197 : am_cwp me_197 := Or.inr ⟨1668, rfl⟩
set_option maxRecDepth 100000 in
theorem am_cw198 : am_cwp me_198 := Or.inr ⟨1671, rfl⟩
set_option maxRecDepth 100000 in
theorem am_cw199 : am_cwp me_199 := Or.inr ⟨1675, rfl⟩
set_option maxRecDepth 100000 in
theorem am_cw200 : am_cwp me_200 := Or.inr ⟨1679, rfl⟩
set_option maxRecDepth 100000 in
theorem am_cw201 : am_cwp me_201 := Or.inr ⟨1683, rfl⟩
set_option maxRecDepth 100000 in
theorem am_cw202 : am_cwp me_202 := Or.inr ⟨1689, rfl⟩
set_option maxRecDepth 100000 in
theorem am_cw203 : am_cwp me_203 := Or.inr ⟨1693, rfl⟩
set_option maxRecDepth 100000 in
theorem am_cw204 : am_cwp me_204 := Or.inr ⟨1698, rfl⟩
set_option maxRecDepth 100000 in
theorem am_cw205 : am_cwp me_205 := Or.inr ⟨1702, rfl⟩
set_option maxRecDepth 100000 in
theorem am_cw206 : am_cwp me_206 := Or.inr ⟨1706, rfl⟩
set_option maxRecDepth 100000 in
theorem am_cw207 : am_cwp me_207 := Or.inr ⟨1710, rfl⟩
set_option maxRecDepth 100000 in
theorem am_cw208 : am_cwp me_208 := Or.inr ⟨1714, rfl⟩
set_option maxRecDepth 100000 in
theorem am_cw209 : am_cwp me_209 := Or.inr ⟨1718, rfl⟩
set_option maxRecDepth 100000 in
theorem am_cw210 : am_cwp me_210 := Or.inr ⟨1722, rfl⟩
set_option maxRecDepth 100000 in
theorem am_cw211 : am_cwp me_211 := Or.inr ⟨1725, rfl⟩
set_option maxRecDepth 100000 in
theorem am_cw212 : am_cwp me_212 := Or.inr ⟨1729, rfl⟩
set_option maxRecDepth 100000 in
theorem am_cw213 : am_cwp me_213 := Or.inr ⟨1732, rfl⟩
set_option maxRecDepth 100000 in
theorem am_cw214 : am_cwp me_214 := Or.inr ⟨1735, rfl⟩
set_option maxRecDepth 100000 in
theorem am_cw215 : am_cwp me_215 := Or.inr ⟨1739, rfl⟩
set_option maxRecDepth 100000 in
theorem am_cw216 : am_cwp me_216 := Or.inr ⟨1743, rfl⟩
set_option maxRecDepth 100000 in
theorem am_cw217 : am_cwp me_217 := Or.inr ⟨1747, rfl⟩
set_option maxRecDepth 100000 in
theorem am_cw218 : am_cwp me_218 := Or.inr ⟨1751, rfl⟩
set_option maxRecDepth 100000 in
theorem am_cw219 : am_cwp me_219 := Or.inr ⟨1754, rfl⟩
set_option maxRecDepth 100000 in
theorem am_cw220 : am_cwp me_220 := Or.inr ⟨1758, rfl⟩
set_option maxRecDepth 100000 in
theorem am_cw221 : am_cwp me_221 := Or.inr ⟨1762, rfl⟩
set_option maxRecDepth 100000 in
theorem am_cw222 : am_cwp me_222 := Or.inr ⟨1766, rfl⟩
set_option maxRecDepth 100000 in
theorem am_cw223 : am_cwp me_223 := Or.inr ⟨1770, rfl⟩
set_option maxRecDepth 100000 in
theorem am_cw224 : am_cwp me_224 := Or.inr ⟨1776, rfl⟩
set_option maxRecDepth 100000 in
theorem am_cw225 : am_cwp me_225 := Or.inr ⟨1780, rfl⟩
set_option maxRecDepth 100000 in
theorem am_cw226 : am_cwp me_226 := Or.inr ⟨1784, rfl⟩
set_option maxRecDepth 100000 in
theorem am_cw227 : am_cwp me_227 := Or.inr ⟨1789, rfl⟩
set_option maxRecDepth 100000 in
theorem am_cw228 : am_cwp me_228 := Or.inr ⟨1794, rfl⟩
set_option maxRecDepth 100000 in
theorem am_cw229 : am_cwp me_229 := Or.inr ⟨1798, rfl⟩
set_option maxRecDepth 100000 in
theorem am_cw230 : am_cwp me_230 := Or.inr ⟨1801, rfl⟩
set_option maxRecDepth 100000 in
theorem am_cw231 : am_cwp me_231 := Or.inr ⟨1806, rfl⟩
set_option maxRecDepth 100000 in
theorem am_cw232 : am_cwp me_232 := Or.inr ⟨1810, rfl⟩
set_option maxRecDepth 100000 in
theorem am_cw233 : am_cwp me_233 := Or.inr ⟨1813, rfl⟩
set_option maxRecDepth 100000 in
theorem am_cw234 : am_cwp me_234 := Or.inr ⟨1818, rfl⟩
set_option maxRecDepth 100000 in
theorem am_cw235 : am_cwp me_235 := Or.inr ⟨1822, rfl⟩
set_option maxRecDepth 100000 in
theorem am_cw236 : am_cwp me_236 := Or.inr ⟨1826, rfl⟩
set_option maxRecDepth 100000 in
theorem am_cw237 : am_cwp me_237 := Or.inr ⟨1831, rfl⟩
set_option maxRecDepth 100000 in
theorem am_cw238 : am_cwp me_238 := Or.inr ⟨1835, rfl⟩
set_option maxRecDepth 100000 in
theorem am_cw239 : am_cwp me_239 := Or.inr ⟨1839, rfl⟩
set_option maxRecDepth 100000 in
theorem am_cw240 : am_cwp me_240 := Or.inr ⟨1843, rfl⟩
set_option maxRecDepth 100000 in
theorem am_cw241 : am_cwp me_241 := Or.inr ⟨1847, rfl⟩
set_option maxRecDepth 100000 in
theorem am_cw242 : am_cwp me_242 := Or.inr ⟨1850, rfl⟩
set_option maxRecDepth 100000 in
theorem am_cw243 : am_cwp me_243 := Or.inr ⟨1854, rfl⟩
set_option maxRecDepth 100000 in
theorem am_cw244 : am_cwp me_244 := Or.inr ⟨1858, rfl⟩
set_option maxRecDepth 100000 in
theorem am_cw245 : am_cwp me_245 := Or.inr ⟨1862, rfl⟩
set_option maxRecDepth 100000 in
theorem am_cw246 : am_cwp me_246 := Or.inr ⟨1865, rfl⟩
set_option maxRecDepth 100000 in
theorem am_cw247 : am_cwp me_247 := Or.inr ⟨1869, rfl⟩
set_option maxRecDepth 100000 in
theorem am_cw248 : am_cwp me_248 := Or.inr ⟨1873, rfl⟩
set_option maxRecDepth 100000 in
theorem am_cw249 : am_cwp me_249 := Or.inr ⟨1877, rfl⟩
set_option maxRecDepth 100000 in
theorem am_cw250 : am_cwp me_250 := Or.inr ⟨1881, rfl⟩
set_option maxRecDepth 100000 in
theorem am_cw251 : am_cwp me_251 := Or.inr ⟨1885, rfl⟩
set_option maxRecDepth 100000 in
theorem am_cw252 : am_cwp me_252 := Or.inr ⟨1889, rfl⟩
set_option maxRecDepth 100000 in
theorem am_cw253 : am_cwp me_253 := Or.inr ⟨1892, rfl⟩
set_option maxRecDepth 100000 in
theorem am_cw254 : am_cwp me_254 := Or.inr ⟨1896, rfl⟩
set_option maxRecDepth 100000 in
theorem am_cw255 : am_cwp me_255 := Or.inr ⟨1899, rfl⟩
set_option maxRecDepth 100000 in
theorem am_cw256 : am_cwp me_256 := Or.inr ⟨1903, rfl⟩
set_option maxRecDepth 100000 in
theorem am_cw257 : am_cwp me_257 := Or.inr ⟨1907, rfl⟩
set_option maxRecDepth 100000 in
theorem am_cw258 : am_cwp me_258 := Or.inr ⟨1911, rfl⟩
set_option maxRecDepth 100000 in
theorem am_cw259 : am_cwp me_259 := Or.inr ⟨1915, rfl⟩
set_option maxRecDepth 100000 in
theorem am_cw260 : am_cwp me_260 := Or.inr ⟨1919, rfl⟩
set_option maxRecDepth 100000 in
theorem am_cw261 : am_cwp me_261 := Or.inr ⟨1923, rfl⟩
set_option maxRecDepth 100000 in
theorem am_cw262 : am_cwp me_262 := Or.inr ⟨1927, rfl⟩
set_option maxRecDepth 100000 in
theorem am_cw263 : am_cwp me_263 := Or.inr ⟨1931, rfl⟩
set_option maxRecDepth 100000 in
theorem am_cw264 : am_cwp me_264 := Or.inr ⟨1935, rfl⟩
set_option maxRecDepth 100000 in
theorem am_cw265 : am_cwp me_265 := Or.inr ⟨1939, rfl⟩
set_option maxRecDepth 100000 in
theorem am_cw266 : am_cwp me_266 := Or.inr ⟨1943, rfl⟩
set_option maxRecDepth 100000 in
theorem am_cw267 : am_cwp me_267 := Or.inr ⟨1947, rfl⟩
set_option maxRecDepth 100000 in
theorem am_cw268 : am_cwp me_268 := Or.inr ⟨1952, rfl⟩
set_option maxRecDepth 100000 in
theorem am_cw269 : am_cwp me_269 := Or.inr ⟨1956, rfl⟩
set_option maxRecDepth 100000 in
theorem am_cw270 : am_cwp me_270 := Or.inr ⟨1960, rfl⟩
set_option maxRecDepth 100000 in
theorem am_cw271 : am_cwp me_271 := Or.inr ⟨1964, rfl⟩
set_option maxRecDepth 100000 in
theorem am_cw272 : am_cwp me_272 := Or.inr ⟨1971, rfl⟩
set_option maxRecDepth 100000 in
theorem am_cw273 : am_cwp me_273 := Or.inr ⟨1975, rfl⟩
set_option maxRecDepth 100000 in
theorem am_cw274 : am_cwp me_274 := Or.inr ⟨1979, rfl⟩
set_option maxRecDepth 100000 in
theorem am_cw275 : am_cwp me_275 := Or.inr ⟨1983, rfl⟩
set_option maxRecDepth 100000 in
theorem am_cw276 : am_cwp me_276 := Or.inr ⟨1988, rfl⟩
set_option maxRecDepth 100000 in
theorem am_cw277 : am_cwp me_277 := Or.inr ⟨1992, rfl⟩
set_option maxRecDepth 100000 in
theorem am_cw278 : am_cwp me_278 := Or.inr ⟨1997, rfl⟩
set_option maxRecDepth 100000 in
theorem am_cw279 : am_cwp me_279 := Or.inr ⟨2002, rfl⟩
set_option maxRecDepth 100000 in
theorem am_cw280 : am_cwp me_280 := Or.inr ⟨2006, rfl⟩
set_option maxRecDepth 100000 in
theorem am_cw281 : am_cwp me_281 := Or.inr ⟨2010, rfl⟩
set_option maxRecDepth 100000 in
theorem am_cw282 : am_cwp me_282 := Or.inr ⟨2014, rfl⟩
set_option maxRecDepth 100000 in
theorem am_cw283 : am_cwp me_283 := Or.inr ⟨2019, rfl⟩
set_option maxRecDepth 100000 in
theorem am_cw284 : am_cwp me_284 := Or.inr ⟨2023, rfl⟩
set_option maxRecDepth 100000 in
theorem am_cw285 : am_cwp me_285 := Or.inr ⟨2026, rfl⟩
set_option maxRecDepth 100000 in
theorem am_cw286 : am_cwp me_286 := Or.inr ⟨2029, rfl⟩
set_option maxRecDepth 100000 in
theorem am_cw287 : am_cwp me_287 := Or.inr ⟨2033, rfl⟩
set_option maxRecDepth 100000 in
theorem am_cw288 : am_cwp me_288 := Or.inr ⟨2037, rfl⟩
set_option maxRecDepth 100000 in
theorem am_cw289 : am_cwp me_289 := Or.inr ⟨2041, rfl⟩
set_option maxRecDepth 100000 in
theorem am_cw290 : am_cwp me_290 := Or.inr ⟨2045, rfl⟩
set_option maxRecDepth 100000 in
theorem am_cw291 : am_cwp me_291 := Or.inr ⟨2052, rfl⟩
set_option maxRecDepth 100000 in
theorem am_cw292 : am_cwp me_292 := Or.inr ⟨2056, rfl⟩
set_option maxRecDepth 100000 in
theorem am_cw293 : am_cwp me_293 := Or.inr ⟨2061, rfl⟩
set_option maxRecDepth 100000 in
theorem am_cw294 : am_cwp me_294 := Or.inr ⟨2065, rfl⟩
set_option maxRecDepth 100000 in
theorem am_cw295 : am_cwp me_295 := Or.inr ⟨2069, rfl⟩
set_option maxRecDepth 100000 in
theorem am_cw296 : am_cwp me_296 := Or.inr ⟨2073, rfl⟩
set_option maxRecDepth 100000 in
theorem am_cw297 : am_cwp me_297 := Or.inr ⟨2077, rfl⟩
set_option maxRecDepth 100000 in
theorem am_cw298 : am_cwp me_298 := Or.inr ⟨2080, rfl⟩
set_option maxRecDepth 100000 in
theorem am_cw299 : am_cwp me_299 := Or.inr ⟨2084, rfl⟩
set_option maxRecDepth 100000 in
theorem am_cw300 : am_cwp me_300 := Or.inr ⟨2089, rfl⟩
set_option maxRecDepth 100000 in
theorem am_cw301 : am_cwp me_301 := Or.inr ⟨2093, rfl⟩
set_option maxRecDepth 100000 in
theorem am_cw302 : am_cwp me_302 := Or.inr ⟨2097, rfl⟩
set_option maxRecDepth 100000 in
theorem am_cw303 : am_cwp me_303 := Or.inr ⟨2101, rfl⟩
set_option maxRecDepth 100000 in
theorem am_cw304 : am_cwp me_304 := Or.inr ⟨2105, rfl⟩
set_option maxRecDepth 100000 in
theorem am_cw305 : am_cwp me_305 := Or.inr ⟨2109, rfl⟩
set_option maxRecDepth 100000 in
theorem am_cw306 : am_cwp me_306 := Or.inr ⟨2113, rfl⟩
set_option maxRecDepth 100000 in
theorem am_cw307 : am_cwp me_307 := Or.inr ⟨2117, rfl⟩
set_option maxRecDepth 100000 in
theorem am_cw308 : am_cwp me_308 := Or.inr ⟨2121, rfl⟩
set_option maxRecDepth 100000 in
theorem am_cw309 : am_cwp me_309 := Or.inr ⟨2126, rfl⟩
set_option maxRecDepth 100000 in
theorem am_cw310 : am_cwp me_310 := Or.inr ⟨2130, rfl⟩
set_option maxRecDepth 100000 in
theorem am_cw311 : am_cwp me_311 := Or.inr ⟨2134, rfl⟩
set_option maxRecDepth 100000 in
theorem am_cw312 : am_cwp me_312 := Or.inr ⟨2139, rfl⟩
theorem am_cw313 : am_cwp me_313 := Or.inl rfl
theorem am_cwc0 : ∀ me ∈ am_me_0, am_cwp me := List.forall_mem_cons.mpr ⟨am_cw0, List.forall_mem_cons.mpr ⟨am_cw1, List.forall_mem_cons.mpr ⟨am_cw2, List.forall_mem_cons.mpr ⟨am_cw3, List.forall_mem_cons.mpr ⟨am_cw4, List.forall_mem_cons.mpr ⟨am_cw5, List.forall_mem_cons.mpr ⟨am_cw6, List.forall_mem_cons.mpr ⟨am_cw7, List.forall_mem_cons.mpr ⟨am_cw8, List.forall_mem_cons.mpr ⟨am_cw9, List.forall_mem_cons.mpr ⟨am_cw10, List.forall_mem_cons.mpr ⟨am_cw11, List.forall_mem_cons.mpr ⟨am_cw12, List.forall_mem_cons.mpr ⟨am_cw13, List.forall_mem_cons.mpr ⟨am_cw14, List.forall_mem_cons.mpr ⟨am_cw15, List.forall_mem_cons.mpr ⟨am_cw16, List.forall_mem_cons.mpr ⟨am_cw17, List.forall_mem_cons.mpr ⟨am_cw18, List.forall_mem_cons.mpr ⟨am_cw19, fun _ h => absurd h List.not_mem_nil⟩⟩⟩⟩⟩⟩⟩⟩⟩⟩⟩⟩⟩⟩⟩⟩⟩⟩⟩⟩
theorem am_cwc1 : ∀ me ∈ am_me_1, am_cwp me := List.forall_mem_cons.mpr ⟨am_cw20, List.forall_mem_cons.mpr ⟨am_cw21, List.forall_mem_cons.mpr ⟨am_cw22, List.forall_mem_cons.mpr ⟨am_cw23, List.forall_mem_cons.mpr ⟨am_cw24, List.forall_mem_cons.mpr ⟨am_cw25, List.forall_mem_cons.mpr ⟨am_cw26, List.forall_mem_cons.mpr ⟨am_cw27, List.forall_mem_cons.mpr ⟨am_cw28, List.forall_mem_cons.mpr ⟨am_cw29, List.forall_mem_cons.mpr ⟨am_cw30, List.forall_mem_cons.mpr ⟨am_cw31, List.forall_mem_cons.mpr ⟨am_cw32, List.forall_mem_cons.mpr ⟨am_cw33, List.forall_mem_cons.mpr ⟨am_cw34, List.forall_mem_cons.mpr ⟨am_cw35, List.forall_mem_cons.mpr ⟨am_cw36, List.forall_mem_cons.mpr ⟨am_cw37, List.forall_mem_cons.mpr ⟨am_cw38, List.forall_mem_cons.mpr ⟨am_cw39, fun _ h => absurd h List.not_mem_nil⟩⟩⟩⟩⟩⟩⟩⟩⟩⟩⟩⟩⟩⟩⟩⟩⟩⟩⟩⟩
theorem am_cwc2 : ∀ me ∈ am_me_2, am_cwp me := List.forall_mem_cons.mpr ⟨am_cw40, List.forall_mem_cons.mpr ⟨am_cw41, List.forall_mem_cons.mpr ⟨am_cw42, List.forall_mem_cons.mpr ⟨am_cw43, List.forall_mem_cons.mpr ⟨am_cw44, List.forall_mem_cons.mpr ⟨am_cw45, List.forall_mem_cons.mpr ⟨am_cw46, List.forall_mem_cons.mpr ⟨am_cw47, List.forall_mem_cons.mpr ⟨am_cw48, List.forall_mem_cons.mpr ⟨am_cw49, List.forall_mem_cons.mpr ⟨am_cw50, List.forall_mem_cons.mpr ⟨am_cw51, List.forall_mem_cons.mpr ⟨am_cw52, List.forall_mem_cons.mpr ⟨am_cw53, List.forall_mem_cons.mpr ⟨am_cw54, List.forall_mem_cons.mpr ⟨am_cw55, List.forall_mem_cons.mpr ⟨am_cw56, List.forall_mem_cons.mpr ⟨am_cw57, List.forall_mem_cons.mpr ⟨am_cw58, List.forall_mem_cons.mpr ⟨am_cw59, fun _ h => absurd h List.not_mem_nil⟩⟩⟩⟩⟩⟩⟩⟩⟩⟩⟩⟩⟩⟩⟩⟩⟩⟩⟩⟩
theorem am_cwc3 : ∀ me ∈ am_me_3, am_cwp me := List.forall_mem_cons.mpr ⟨am_cw60, List.forall_mem_cons.mpr ⟨am_cw61, List.forall_mem_cons.mpr ⟨am_cw62, List.forall_mem_cons.mpr ⟨am_cw63, List.forall_mem_cons.mpr ⟨am_cw64, List.forall_mem_cons.mpr ⟨am_cw65, List.forall_mem_cons.mpr ⟨am_cw66, List.forall_mem_cons.mpr ⟨am_cw67, List.forall_mem_cons.mpr ⟨am_cw68, List.forall_mem_cons.mpr ⟨am_cw69, List.forall_mem_cons.mpr ⟨am_cw70, List.forall_mem_cons.mpr ⟨am_cw71, List.forall_mem_cons.mpr ⟨am_cw72, List.forall_mem_cons.mpr ⟨am_cw73, List.forall_mem_cons.mpr ⟨am_cw74, List.forall_mem_cons.mpr ⟨am_cw75, List.forall_mem_cons.mpr ⟨am_cw76, List.forall_mem_cons.mpr ⟨am_cw77, List.forall_mem_cons.mpr ⟨am_cw78, List.forall_mem_cons.mpr ⟨am_cw79, fun _ h => absurd h List.not_mem_nil⟩⟩⟩⟩⟩⟩⟩⟩⟩⟩⟩⟩⟩⟩⟩⟩⟩⟩⟩⟩
theorem am_cwc4 : ∀ me ∈ am_me_4, am_cwp me := List.forall_mem_cons.mpr ⟨am_cw80, List.forall_mem_cons.mpr ⟨am_cw81, List.forall_mem_cons.mpr ⟨am_cw82, List.forall_mem_cons.mpr ⟨am_cw83, List.forall_mem_cons.mpr ⟨am_cw84, List.forall_mem_cons.mpr ⟨am_cw85, List.forall_mem_cons.mpr ⟨am_cw86, List.forall_mem_cons.mpr ⟨am_cw87, List.forall_mem_cons.mpr ⟨am_cw88, List.forall_mem_cons.mpr ⟨am_cw89, List.forall_mem_cons.mpr ⟨am_cw90, List.forall_mem_cons.mpr ⟨am_cw91, List.forall_mem_cons.mpr ⟨am_cw92, List.forall_mem_cons.mpr ⟨am_cw93, List.forall_mem_cons.mpr ⟨am_cw94, List.forall_mem_cons.mpr ⟨am_cw95, List.forall_mem_cons.mpr ⟨am_cw96, List.forall_mem_cons.mpr ⟨am_cw97, List.forall_mem_cons.mpr ⟨am_cw98, List.forall_mem_cons.mpr ⟨am_cw99, fun _ h => absurd h List.not_mem_nil⟩⟩⟩⟩⟩⟩⟩⟩⟩⟩⟩⟩⟩⟩⟩⟩⟩⟩⟩⟩
theorem am_cwc5 : ∀ me ∈ am_me_5, am_cwp me := List.forall_mem_cons.mpr ⟨am_cw100, List.forall_mem_cons.mpr ⟨am_cw101, List.forall_mem_cons.mpr ⟨am_cw102, List.forall_mem_cons.mpr ⟨am_cw103, List.forall_mem_cons.mpr ⟨am_cw104, List.forall_mem_cons.mpr ⟨am_cw105, List.forall_mem_cons.mpr ⟨am_cw106, List.forall_mem_cons.mpr ⟨am_cw107, List.forall_mem_cons.mpr ⟨am_cw108, List.forall_mem_cons.mpr ⟨am_cw109, List.forall_mem_cons.mpr ⟨am_cw110, List.forall_mem_cons.mpr ⟨am_cw111, List.forall_mem_cons.mpr ⟨am_cw112, List.forall_mem_cons.mpr ⟨am_cw113, List.forall_mem_cons.mpr ⟨am_cw114, List.forall_mem_cons.mpr ⟨am_cw115, List.forall_mem_cons.mpr ⟨am_cw116, List.forall_mem_cons.mpr ⟨am_cw117, List.forall_mem_cons.mpr ⟨am_cw118, List.forall_mem_cons.mpr ⟨am_cw119, fun _ h => absurd h List.not_mem_nil⟩⟩⟩⟩⟩⟩⟩⟩⟩⟩⟩⟩⟩⟩⟩⟩⟩⟩⟩⟩
theorem am_cwc6 : ∀ me ∈ am_me_6, am_cwp me := List.forall_mem_cons.mpr ⟨am_cw120, List.forall_mem_cons.mpr ⟨am_cw121, List.forall_mem_cons.mpr ⟨am_cw122, List.forall_mem_cons.mpr ⟨am_cw123, List.forall_mem_cons.mpr ⟨am_cw124, List.forall_mem_cons.mpr ⟨am_cw125, List.forall_mem_cons.mpr ⟨am_cw126, List.forall_mem_cons.mpr ⟨am_cw127, List.forall_mem_cons.mpr ⟨am_cw128, List.forall_mem_cons.mpr ⟨am_cw129, List.forall_mem_cons.mpr ⟨am_cw130, List.forall_mem_cons.mpr ⟨am_cw131, List.forall_mem_cons.mpr ⟨am_cw132, List.forall_mem_cons.mpr ⟨am_cw133, List.forall_mem_cons.mpr ⟨am_cw134, List.forall_mem_cons.mpr ⟨am_cw135, List.forall_mem_cons.mpr ⟨am_cw136, List.forall_mem_cons.mpr ⟨am_cw137, List.forall_mem_cons.mpr ⟨am_cw138, List.forall_mem_cons.mpr ⟨am_cw139, fun _ h => absurd h List.not_mem_nil⟩⟩⟩⟩⟩⟩⟩⟩⟩⟩⟩⟩⟩⟩⟩⟩⟩⟩⟩⟩
theorem am_cwc7 : ∀ me ∈ am_me_7, am_cwp me := List.forall_mem_cons.mpr ⟨am_cw140, List.forall_mem_cons.mpr ⟨am_cw141, List.forall_mem_cons.mpr ⟨am_cw142, List.forall_mem_cons.mpr ⟨am_cw143, List.forall_mem_cons.mpr ⟨am_cw144, List.forall_mem_cons.mpr ⟨am_cw145, List.forall_mem_cons.mpr ⟨am_cw146, List.forall_mem_cons.mpr ⟨am_cw147, List.forall_mem_cons.mpr ⟨am_cw148, List.forall_mem_cons.mpr ⟨am_cw149, List.forall_mem_cons.mpr ⟨am_cw150, List.forall_mem_cons.mpr ⟨am_cw151, List.forall_mem_cons.mpr ⟨am_cw152, List.forall_mem_cons.mpr ⟨am_cw153, List.forall_mem_cons.mpr ⟨am_cw154, List.forall_mem_cons.mpr ⟨am_cw155, List.forall_mem_cons.mpr ⟨am_cw156, List.forall_mem_cons.mpr ⟨am_cw157, List.forall_mem_cons.mpr ⟨am_cw158, List.forall_mem_cons.mpr ⟨am_cw159, fun _ h => absurd h List.not_mem_nil⟩⟩⟩⟩⟩⟩⟩⟩⟩⟩⟩⟩⟩⟩⟩⟩⟩⟩⟩⟩
theorem am_cwc8 : ∀ me ∈ am_me_8, am_cwp me := List.forall_mem_cons.mpr ⟨am_cw160, List.forall_mem_cons.mpr ⟨am_cw161, List.forall_mem_cons.mpr ⟨am_cw162, List.forall_mem_cons.mpr ⟨am_cw163, List.forall_mem_cons.mpr ⟨am_cw164, List.forall_mem_cons.mpr ⟨am_cw165, List.forall_mem_cons.mpr ⟨am_cw166, List.forall_mem_cons.mpr ⟨am_cw167, List.forall_mem_cons.mpr ⟨am_cw168, List.forall_mem_cons.mpr ⟨am_cw169, List.forall_mem_cons.mpr ⟨am_cw170, List.forall_mem_cons.mpr ⟨am_cw171, List.forall_mem_cons.mpr ⟨am_cw172, List.forall_mem_cons.mpr ⟨am_cw173, List.forall_mem_cons.mpr ⟨am_cw174, List.forall_mem_cons.mpr ⟨am_cw175, List.forall_mem_cons.mpr ⟨am_cw176, List.forall_mem_cons.mpr ⟨am_cw177, List.forall_mem_cons.mpr ⟨am_cw178, List.forall_mem_cons.mpr ⟨am_cw179, fun _ h => absurd h List.not_mem_nil⟩⟩⟩⟩⟩⟩⟩⟩⟩⟩⟩⟩⟩⟩⟩⟩⟩⟩⟩⟩
theorem am_cwc9 : ∀ me ∈ am_me_9, am_cwp me := List.forall_mem_cons.mpr ⟨am_cw180, List.forall_mem_cons.mpr ⟨am_cw181, List.forall_mem_cons.mpr ⟨am_cw182, List.forall_mem_cons.mpr ⟨am_cw183, List.forall_mem_cons.mpr ⟨am_cw184, List.forall_mem_cons.mpr ⟨am_cw185, List.forall_mem_cons.mpr ⟨am_cw186, List.forall_mem_cons.mpr ⟨am_cw187, List.forall_mem_cons.mpr ⟨am_cw188, List.forall_mem_cons.mpr ⟨am_cw189, List.forall_mem_cons.mpr ⟨am_cw190, List.forall_mem_cons.mpr ⟨am_cw191, List.forall_mem_cons.mpr ⟨am_cw192, List.forall_mem_cons.mpr ⟨am_cw193, List.forall_mem_cons.mpr ⟨am_cw194, List.forall_mem_cons.mpr ⟨am_cw195, List.forall_mem_cons.mpr ⟨am_cw196, List.forall_mem_cons.mpr ⟨am_cw197, List.forall_mem_cons.mpr ⟨am_cw198, List.forall_mem_cons.mpr ⟨am_cw199, fun _ h => absurd h List.not_mem_nil⟩⟩⟩⟩⟩⟩⟩⟩⟩⟩⟩⟩⟩⟩⟩⟩⟩⟩⟩⟩
theorem am_cwc10 : ∀ me ∈ am_me_10, am_cwp me := List.forall_mem_cons.mpr ⟨am_cw200, List.forall_mem_cons.mpr ⟨am_cw201, List.forall_mem_cons.mpr ⟨am_cw202, List.forall_mem_cons.mpr ⟨am_cw203, List.forall_mem_cons.mpr ⟨am_cw204, List.forall_mem_cons.mpr ⟨am_cw205, List.forall_mem_cons.mpr ⟨am_cw206, List.forall_mem_cons.mpr ⟨am_cw207, List.forall_mem_cons.mpr ⟨am_cw208, List.forall_mem_cons.mpr ⟨am_cw209, List.forall_mem_cons.mpr ⟨am_cw210, List.forall_mem_cons.mpr ⟨am_cw211, List.forall_mem_cons.mpr ⟨am_cw212, List.forall_mem_cons.mpr ⟨am_cw213, List.forall_mem_cons.mpr ⟨am_cw214, List.forall_mem_cons.mpr ⟨am_cw215, List.forall_mem_cons.mpr ⟨am_cw216, List.forall_mem_cons.mpr ⟨am_cw217, List.forall_mem_cons.mpr ⟨am_cw218, List.forall_mem_cons.mpr ⟨am_cw219, fun _ h => absurd h List.not_mem_nil⟩⟩⟩⟩⟩⟩⟩⟩⟩⟩⟩⟩⟩⟩⟩⟩⟩⟩⟩⟩
theorem am_cwc11 : ∀ me ∈ am_me_11, am_cwp me := List.forall_mem_cons.mpr ⟨am_cw220, List.forall_mem_cons.mpr ⟨am_cw221, List.forall_mem_cons.mpr ⟨am_cw222, List.forall_mem_cons.mpr ⟨am_cw223, List.forall_mem_cons.mpr ⟨am_cw224, List.forall_mem_cons.mpr ⟨am_cw225, List.forall_mem_cons.mpr ⟨am_cw226, List.forall_mem_cons.mpr ⟨am_cw227, List.forall_mem_cons.mpr ⟨am_cw228, List.forall_mem_cons.mpr ⟨am_cw229, List.forall_mem_cons.mpr ⟨am_cw230, List.forall_mem_cons.mpr ⟨am_cw231, List.forall_mem_cons.mpr ⟨am_cw232, List.forall_mem_cons.mpr ⟨am_cw233, List.forall_mem_cons.mpr ⟨am_cw234, List.forall_mem_cons.mpr ⟨am_cw235, List.forall_mem_cons.mpr ⟨am_cw236, List.forall_mem_cons.mpr ⟨am_cw237, List.forall_mem_cons.mpr ⟨am_cw238, List.forall_mem_cons.mpr ⟨am_cw239, fun _ h => absurd h List.not_mem_nil⟩⟩⟩⟩⟩⟩⟩⟩⟩⟩⟩⟩⟩⟩⟩⟩⟩⟩⟩⟩
theorem am_cwc12 : ∀ me ∈ am_me_12, am_cwp me := List.forall_mem_cons.mpr ⟨am_cw240, List.forall_mem_cons.mpr ⟨am_cw241, List.forall_mem_cons.mpr ⟨am_cw242, List.forall_mem_cons.mpr ⟨am_cw243, List.forall_mem_cons.mpr ⟨am_cw244, List.forall_mem_cons.mpr ⟨am_cw245, List.forall_mem_cons.mpr ⟨am_cw246, List.forall_mem_cons.mpr ⟨am_cw247, List.forall_mem_cons.mpr ⟨am_cw248, List.forall_mem_cons.mpr ⟨am_cw249, List.forall_mem_cons.mpr ⟨am_cw250, List.forall_mem_cons.mpr ⟨am_cw251, List.forall_mem_cons.mpr ⟨am_cw252, List.forall_mem_cons.mpr ⟨am_cw253, List.forall_mem_cons.mpr ⟨am_cw254, List.forall_mem_cons.mpr ⟨am_cw255, List.forall_mem_cons.mpr ⟨am_cw256, List.forall_mem_cons.mpr ⟨am_cw257, List.forall_mem_cons.mpr ⟨am_cw258, List.forall_mem_cons.mpr ⟨am_cw259, fun _ h => absurd h List.not_mem_nil⟩⟩⟩⟩⟩⟩⟩⟩⟩⟩⟩⟩⟩⟩⟩⟩⟩⟩⟩⟩
theorem am_cwc13 : ∀ me ∈ am_me_13, am_cwp me := List.forall_mem_cons.mpr ⟨am_cw260, List.forall_mem_cons.mpr ⟨am_cw261, List.forall_mem_cons.mpr ⟨am_cw262, List.forall_mem_cons.mpr ⟨am_cw263, List.forall_mem_cons.mpr ⟨am_cw264, List.forall_mem_cons.mpr ⟨am_cw265, List.forall_mem_cons.mpr ⟨am_cw266, List.forall_mem_cons.mpr ⟨am_cw267, List.forall_mem_cons.mpr ⟨am_cw268, List.forall_mem_cons.mpr ⟨am_cw269, List.forall_mem_cons.mpr ⟨am_cw270, List.forall_mem_cons.mpr ⟨am_cw271, List.forall_mem_cons.mpr ⟨am_cw272, List.forall_mem_cons.mpr ⟨am_cw273, List.forall_mem_cons.mpr ⟨am_cw274, List.forall_mem_cons.mpr ⟨am_cw275, List.forall_mem_cons.mpr ⟨am_cw276, List.forall_mem_cons.mpr ⟨am_cw277, List.forall_mem_cons.mpr ⟨am_cw278, List.forall_mem_cons.mpr ⟨am_cw279, fun _ h => absurd h List.not_mem_nil⟩⟩⟩⟩⟩⟩⟩⟩⟩⟩⟩⟩⟩⟩⟩⟩⟩⟩⟩⟩
theorem am_cwc14 : ∀ me ∈ am_me_14, am_cwp me := List.forall_mem_cons.mpr ⟨am_cw280, List.forall_mem_cons.mpr ⟨am_cw281, List.forall_mem_cons.mpr ⟨am_cw282, List.forall_mem_cons.mpr ⟨am_cw283, List.forall_mem_cons.mpr ⟨am_cw284, List.forall_mem_cons.mpr ⟨am_cw285, List.forall_mem_cons.mpr ⟨am_cw286, List.forall_mem_cons.mpr ⟨am_cw287, List.forall_mem_cons.mpr ⟨am_cw288, List.forall_mem_cons.mpr ⟨am_cw289, List.forall_mem_cons.mpr ⟨am_cw290, List.forall_mem_cons.mpr ⟨am_cw291, List.forall_mem_cons.mpr ⟨am_cw292, List.forall_mem_cons.mpr ⟨am_cw293, List.forall_mem_cons.mpr ⟨am_cw294, List.forall_mem_cons.mpr ⟨am_cw295, List.forall_mem_cons.mpr ⟨am_cw296, List.forall_mem_cons.mpr ⟨am_cw297, List.forall_mem_cons.mpr ⟨am_cw298, List.forall_mem_cons.mpr ⟨am_cw299, fun _ h => absurd h List.not_mem_nil⟩⟩⟩⟩⟩⟩⟩⟩⟩⟩⟩⟩⟩⟩⟩⟩⟩⟩⟩⟩
theorem am_cwc15 : ∀ me ∈ am_me_15, am_cwp me := List.forall_mem_cons.mpr ⟨am_cw300, List.forall_mem_cons.mpr ⟨am_cw301, List.forall_mem_cons.mpr ⟨am_cw302, List.forall_mem_cons.mpr ⟨am_cw303, List.forall_mem_cons.mpr ⟨am_cw304, List.forall_mem_cons.mpr ⟨am_cw305, List.forall_mem_cons.mpr ⟨am_cw306, List.forall_mem_cons.mpr ⟨am_cw307, List.forall_mem_cons.mpr ⟨am_cw308, List.forall_mem_cons.mpr ⟨am_cw309, List.forall_mem_cons.mpr ⟨am_cw310, List.forall_mem_cons.mpr ⟨am_cw311, List.forall_mem_cons.mpr ⟨am_cw312, List.forall_mem_cons.mpr ⟨am_cw313, fun _ h => absurd h List.not_mem_nil⟩⟩⟩⟩⟩⟩⟩⟩⟩⟩⟩⟩⟩⟩
theorem am_cwall : ∀ me ∈ am_me, am_cwp me := fun me h => (List.mem_append.mp h).elim (am_cwc0 me) (fun h => (List.mem_append.mp h).elim (am_cwc1 me) (fun h => (List.mem_append.mp h).elim (am_cwc2 me) (fun h => (List.mem_append.mp h).elim (am_cwc3 me) (fun h => (List.mem_append.mp h).elim (am_cwc4 me) (fun h => (List.mem_append.mp h).elim (am_cwc5 me) (fun h => (List.mem_append.mp h).elim (am_cwc6 me) (fun h => (List.mem_append.mp h).elim (am_cwc7 me) (fun h => (List.mem_append.mp h).elim (am_cwc8 me) (fun h => (List.mem_append.mp h).elim (am_cwc9 me) (fun h => (List.mem_append.mp h).elim (am_cwc10 me) (fun h => (List.mem_append.mp h).elim (am_cwc11 me) (fun h => (List.mem_append.mp h).elim (am_cwc12 me) (fun h => (List.mem_append.mp h).elim (am_cwc13 me) (fun h => (List.mem_append.mp h).elim (am_cwc14 me) (fun h => am_cwc15 me h)))))))))))))))
