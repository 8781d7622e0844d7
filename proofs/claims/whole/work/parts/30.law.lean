theorem mt_L_13 : MV RL 13 5 yX5_row cX5_row 3 (some .int) 2 := ⟨TX5, 13, rfl, k_280, k_61, k_278, k_279, k_277, ⟨by decide +kernel, by decide +kernel, by decide +kernel⟩, by decide⟩
theorem mt_L_17 : MV RL 17 6 yX6_row cX6_row 4 (some .int) 2 := ⟨TX6, 41, rfl, k_930, k_68, k_928, k_929, k_927, ⟨by decide +kernel, by decide +kernel, by decide +kernel⟩, by decide⟩
theorem mt_L_18 : MV RL 18 5 yX5_lay cX5_lay 5 (some .int) 3 := ⟨TX5, 13, rfl, k_298, k_61, k_296, k_297, k_295, ⟨by decide +kernel, by decide +kernel, by decide +kernel⟩, by decide⟩
theorem mt_L_22 : MV RL 22 6 yX6_lay cX6_lay 5 (some .int) 3 := ⟨TX6, 41, rfl, k_941, k_68, k_939, k_940, k_938, ⟨by decide +kernel, by decide +kernel, by decide +kernel⟩, by decide⟩
theorem mt_L_23 : MV RL 23 5 yX5_at cX5_at 4 (some .int) 2 := ⟨TX5, 13, rfl, k_311, k_61, k_309, k_310, k_308, ⟨by decide +kernel, by decide +kernel, by decide +kernel⟩, by decide⟩
theorem mt_L_26 : MV RL 26 6 yX6_at cX6_at 3 (some .int) 2 := ⟨TX6, 41, rfl, k_953, k_68, k_951, k_952, k_950, ⟨by decide +kernel, by decide +kernel, by decide +kernel⟩, by decide⟩
theorem mt_L_27 : MV RL 27 5 yX5_tear cX5_tear 2 (some .int) 1 := ⟨TX5, 13, rfl, k_315, k_61, k_313, k_314, k_312, ⟨by decide +kernel, by decide +kernel, by decide +kernel⟩, by decide⟩
theorem mt_L_31 : MV RL 31 6 yX6_tear cX6_tear 2 (some .int) 1 := ⟨TX6, 41, rfl, k_957, k_68, k_955, k_956, k_954, ⟨by decide +kernel, by decide +kernel, by decide +kernel⟩, by decide⟩
theorem mt_L_32 : MV RL 32 5 yX5_copy cX5_copy 6 (some .int) 5 := ⟨TX5, 13, rfl, k_320, k_61, k_318, k_319, k_317, ⟨by decide +kernel, by decide +kernel, by decide +kernel⟩, by decide⟩
theorem mt_L_36 : MV RL 36 6 yX6_copy cX6_copy 7 (some .int) 5 := ⟨TX6, 41, rfl, k_961, k_68, k_959, k_960, k_958, ⟨by decide +kernel, by decide +kernel, by decide +kernel⟩, by decide⟩
theorem mt_L_37 : MV RL 37 5 yX5_mean cX5_mean 2 (some .int) 1 := ⟨TX5, 13, rfl, k_331, k_61, k_329, k_330, k_328, ⟨by decide +kernel, by decide +kernel, by decide +kernel⟩, by decide⟩
theorem mt_L_40 : MV RL 40 6 yX6_mean cX6_mean 5 (some .int) 1 := ⟨TX6, 41, rfl, k_965, k_68, k_963, k_964, k_962, ⟨by decide +kernel, by decide +kernel, by decide +kernel⟩, by decide⟩
theorem mt_L_41 : MV RL 41 5 yX5_text cX5_text 3 (some .int) 2 := ⟨TX5, 13, rfl, k_339, k_61, k_337, k_338, k_336, ⟨by decide +kernel, by decide +kernel, by decide +kernel⟩, by decide⟩
theorem mt_L_44 : MV RL 44 6 yX6_text cX6_text 4 (some .int) 2 := ⟨TX6, 41, rfl, k_969, k_68, k_967, k_968, k_966, ⟨by decide +kernel, by decide +kernel, by decide +kernel⟩, by decide⟩
theorem mt_L_45 : MV RL 45 5 yX5_put cX5_put 6 (some .int) 3 := ⟨TX5, 13, rfl, k_343, k_61, k_341, k_342, k_340, ⟨by decide +kernel, by decide +kernel, by decide +kernel⟩, by decide⟩
theorem mt_L_48 : MV RL 48 6 yX6_put cX6_put 5 (some .int) 3 := ⟨TX6, 41, rfl, k_976, k_68, k_974, k_975, k_973, ⟨by decide +kernel, by decide +kernel, by decide +kernel⟩, by decide⟩
theorem mt_L_49 : MV RL 49 5 yX5_fault cX5_fault 2 (some .int) 1 := ⟨TX5, 13, rfl, k_347, k_61, k_345, k_346, k_344, ⟨by decide +kernel, by decide +kernel, by decide +kernel⟩, by decide⟩
theorem mt_L_52 : MV RL 52 6 yX6_fault cX6_fault 2 (some .int) 1 := ⟨TX6, 41, rfl, k_980, k_68, k_978, k_979, k_977, ⟨by decide +kernel, by decide +kernel, by decide +kernel⟩, by decide⟩
theorem mt_L_53 : MV RL 53 5 yX5_wood cX5_wood 3 (some .int) 1 := ⟨TX5, 13, rfl, k_411, k_61, k_409, k_410, k_408, ⟨by decide +kernel, by decide +kernel, by decide +kernel⟩, by decide⟩
theorem mt_L_56 : MV RL 56 6 yX6_wood cX6_wood 3 (some .int) 1 := ⟨TX6, 41, rfl, k_1018, k_68, k_1016, k_1017, k_1015, ⟨by decide +kernel, by decide +kernel, by decide +kernel⟩, by decide⟩
theorem mt_L_57 : MV RL 57 5 yX5_place cX5_place 3 (some .int) 2 := ⟨TX5, 13, rfl, k_420, k_61, k_418, k_419, k_417, ⟨by decide +kernel, by decide +kernel, by decide +kernel⟩, by decide⟩
theorem mt_L_60 : MV RL 60 6 yX6_place cX6_place 3 (some .int) 2 := ⟨TX6, 41, rfl, k_1026, k_68, k_1024, k_1025, k_1023, ⟨by decide +kernel, by decide +kernel, by decide +kernel⟩, by decide⟩
theorem mt_L_61 : MV RL 61 5 yX5_mark cX5_mark 3 (some .int) 2 := ⟨TX5, 13, rfl, k_441, k_61, k_439, k_440, k_438, ⟨by decide +kernel, by decide +kernel, by decide +kernel⟩, by decide⟩
theorem mt_L_64 : MV RL 64 6 yX6_mark cX6_mark 4 (some .int) 2 := ⟨TX6, 41, rfl, k_1050, k_68, k_1048, k_1049, k_1047, ⟨by decide +kernel, by decide +kernel, by decide +kernel⟩, by decide⟩
theorem mt_L_65 : MV RL 65 5 yX5_path cX5_path 5 (some .int) 3 := ⟨TX5, 13, rfl, k_464, k_61, k_462, k_463, k_461, ⟨by decide +kernel, by decide +kernel, by decide +kernel⟩, by decide⟩
theorem mt_L_68 : MV RL 68 6 yX6_path cX6_path 5 (some .int) 3 := ⟨TX6, 41, rfl, k_1078, k_68, k_1076, k_1077, k_1075, ⟨by decide +kernel, by decide +kernel, by decide +kernel⟩, by decide⟩
theorem mt_L_69 : MV RL 69 5 yX5_bird cX5_bird 2 (some .int) 1 := ⟨TX5, 13, rfl, k_470, k_61, k_468, k_469, k_467, ⟨by decide +kernel, by decide +kernel, by decide +kernel⟩, by decide⟩
theorem mt_L_72 : MV RL 72 6 yX6_bird cX6_bird 2 (some .int) 1 := ⟨TX6, 41, rfl, k_1082, k_68, k_1080, k_1081, k_1079, ⟨by decide +kernel, by decide +kernel, by decide +kernel⟩, by decide⟩
theorem mt_L_73 : MV RL 73 5 yX5_pocket cX5_pocket 2 (some .int) 1 := ⟨TX5, 13, rfl, k_481, k_61, k_479, k_480, k_478, ⟨by decide +kernel, by decide +kernel, by decide +kernel⟩, by decide⟩
theorem mt_L_76 : MV RL 76 6 yX6_pocket cX6_pocket 2 (some .int) 1 := ⟨TX6, 41, rfl, k_1090, k_68, k_1088, k_1089, k_1087, ⟨by decide +kernel, by decide +kernel, by decide +kernel⟩, by decide⟩
theorem mt_L_77 : MV RL 77 5 yX5_lead cX5_lead 2 (some .int) 1 := ⟨TX5, 13, rfl, k_485, k_61, k_483, k_484, k_482, ⟨by decide +kernel, by decide +kernel, by decide +kernel⟩, by decide⟩
theorem mt_L_80 : MV RL 80 6 yX6_lead cX6_lead 2 (some .int) 1 := ⟨TX6, 41, rfl, k_1094, k_68, k_1092, k_1093, k_1091, ⟨by decide +kernel, by decide +kernel, by decide +kernel⟩, by decide⟩
theorem mt_L_81 : MV RL 81 5 yX5_drop cX5_drop 2 (some .int) 1 := ⟨TX5, 13, rfl, k_497, k_61, k_495, k_496, k_494, ⟨by decide +kernel, by decide +kernel, by decide +kernel⟩, by decide⟩
theorem mt_L_84 : MV RL 84 6 yX6_drop cX6_drop 3 (some .int) 1 := ⟨TX6, 41, rfl, k_1102, k_68, k_1100, k_1101, k_1099, ⟨by decide +kernel, by decide +kernel, by decide +kernel⟩, by decide⟩
theorem mt_L_85 : MV RL 85 5 yX5_fool cX5_fool 3 (some .int) 2 := ⟨TX5, 13, rfl, k_510, k_61, k_508, k_509, k_507, ⟨by decide +kernel, by decide +kernel, by decide +kernel⟩, by decide⟩
theorem mt_L_88 : MV RL 88 6 yX6_fool cX6_fool 3 (some .int) 2 := ⟨TX6, 41, rfl, k_1114, k_68, k_1112, k_1113, k_1111, ⟨by decide +kernel, by decide +kernel, by decide +kernel⟩, by decide⟩
theorem mt_L_89 : MV RL 89 5 yX5_take cX5_take 4 (some .int) 2 := ⟨TX5, 13, rfl, k_515, k_61, k_513, k_514, k_512, ⟨by decide +kernel, by decide +kernel, by decide +kernel⟩, by decide⟩
theorem mt_L_92 : MV RL 92 6 yX6_take cX6_take 4 (some .int) 2 := ⟨TX6, 41, rfl, k_1118, k_68, k_1116, k_1117, k_1115, ⟨by decide +kernel, by decide +kernel, by decide +kernel⟩, by decide⟩
theorem mt_L_93 : MV RL 93 5 yX5_hours cX5_hours 2 (some .int) 1 := ⟨TX5, 13, rfl, k_519, k_61, k_517, k_518, k_516, ⟨by decide +kernel, by decide +kernel, by decide +kernel⟩, by decide⟩
theorem mt_L_96 : MV RL 96 6 yX6_hours cX6_hours 2 (some .int) 1 := ⟨TX6, 41, rfl, k_1122, k_68, k_1120, k_1121, k_1119, ⟨by decide +kernel, by decide +kernel, by decide +kernel⟩, by decide⟩
theorem mt_L_97 : MV RL 97 5 yX5_here cX5_here 1 (some .int) 0 := ⟨TX5, 13, rfl, k_541, k_61, k_539, k_540, k_538, ⟨by decide +kernel, by decide +kernel, by decide +kernel⟩, by decide⟩
theorem mt_L_101 : MV RL 101 6 yX6_here cX6_here 1 (some .int) 0 := ⟨TX6, 41, rfl, k_1134, k_68, k_1132, k_1133, k_1131, ⟨by decide +kernel, by decide +kernel, by decide +kernel⟩, by decide⟩
theorem mt_L_102 : MV RL 102 5 yX5_led cX5_led 2 (some .int) 1 := ⟨TX5, 13, rfl, k_545, k_61, k_543, k_544, k_542, ⟨by decide +kernel, by decide +kernel, by decide +kernel⟩, by decide⟩
theorem mt_L_105 : MV RL 105 6 yX6_led cX6_led 2 (some .int) 1 := ⟨TX6, 41, rfl, k_1138, k_68, k_1136, k_1137, k_1135, ⟨by decide +kernel, by decide +kernel, by decide +kernel⟩, by decide⟩
theorem mt_L_106 : MV RL 106 5 yX5_keep cX5_keep 2 (some .int) 1 := ⟨TX5, 13, rfl, k_553, k_61, k_551, k_552, k_550, ⟨by decide +kernel, by decide +kernel, by decide +kernel⟩, by decide⟩
theorem mt_L_109 : MV RL 109 6 yX6_keep cX6_keep 3 (some .int) 1 := ⟨TX6, 41, rfl, k_1146, k_68, k_1144, k_1145, k_1143, ⟨by decide +kernel, by decide +kernel, by decide +kernel⟩, by decide⟩
theorem mt_L_110 : MV RL 110 5 yX5_on cX5_on 2 (some .int) 1 := ⟨TX5, 13, rfl, k_557, k_61, k_555, k_556, k_554, ⟨by decide +kernel, by decide +kernel, by decide +kernel⟩, by decide⟩
theorem mt_L_113 : MV RL 113 6 yX6_on cX6_on 3 (some .int) 1 := ⟨TX6, 41, rfl, k_1150, k_68, k_1148, k_1149, k_1147, ⟨by decide +kernel, by decide +kernel, by decide +kernel⟩, by decide⟩
theorem mt_L_114 : MV RL 114 5 yX5_home cX5_home 2 (some .int) 0 := ⟨TX5, 13, rfl, k_561, k_61, k_559, k_560, k_558, ⟨by decide +kernel, by decide +kernel, by decide +kernel⟩, by decide⟩
theorem mt_L_117 : MV RL 117 6 yX6_home cX6_home 2 (some .int) 0 := ⟨TX6, 41, rfl, k_1154, k_68, k_1152, k_1153, k_1151, ⟨by decide +kernel, by decide +kernel, by decide +kernel⟩, by decide⟩
theorem mt_L_118 : MV RL 118 5 yX5_back cX5_back 2 (some .int) 1 := ⟨TX5, 13, rfl, k_580, k_61, k_578, k_579, k_577, ⟨by decide +kernel, by decide +kernel, by decide +kernel⟩, by decide⟩
theorem mt_L_121 : MV RL 121 6 yX6_back cX6_back 2 (some .int) 1 := ⟨TX6, 41, rfl, k_1166, k_68, k_1164, k_1165, k_1163, ⟨by decide +kernel, by decide +kernel, by decide +kernel⟩, by decide⟩
theorem mt_L_122 : MV RL 122 5 yX5_wrong cX5_wrong 3 (some .int) 0 := ⟨TX5, 13, rfl, k_584, k_61, k_582, k_583, k_581, ⟨by decide +kernel, by decide +kernel, by decide +kernel⟩, by decide⟩
theorem mt_L_125 : MV RL 125 6 yX6_wrong cX6_wrong 2 (some .int) 0 := ⟨TX6, 41, rfl, k_1170, k_68, k_1168, k_1169, k_1167, ⟨by decide +kernel, by decide +kernel, by decide +kernel⟩, by decide⟩
theorem mt_L_126 : MV RL 126 5 yX5_waits cX5_waits 2 (some .int) 0 := ⟨TX5, 13, rfl, k_589, k_61, k_587, k_588, k_586, ⟨by decide +kernel, by decide +kernel, by decide +kernel⟩, by decide⟩
theorem mt_L_129 : MV RL 129 6 yX6_waits cX6_waits 2 (some .int) 0 := ⟨TX6, 41, rfl, k_1174, k_68, k_1172, k_1173, k_1171, ⟨by decide +kernel, by decide +kernel, by decide +kernel⟩, by decide⟩
theorem mt_L_130 : MV RL 130 5 yX5_nearest cX5_nearest 3 (some .int) 0 := ⟨TX5, 13, rfl, k_593, k_61, k_591, k_592, k_590, ⟨by decide +kernel, by decide +kernel, by decide +kernel⟩, by decide⟩
theorem mt_L_133 : MV RL 133 6 yX6_nearest cX6_nearest 5 (some .int) 0 := ⟨TX6, 41, rfl, k_1182, k_68, k_1180, k_1181, k_1179, ⟨by decide +kernel, by decide +kernel, by decide +kernel⟩, by decide⟩
theorem mt_L_134 : MV RL 134 5 yX5_fewest cX5_fewest 3 (some .int) 2 := ⟨TX5, 13, rfl, k_615, k_61, k_613, k_614, k_612, ⟨by decide +kernel, by decide +kernel, by decide +kernel⟩, by decide⟩
theorem mt_L_137 : MV RL 137 6 yX6_fewest cX6_fewest 4 (some .int) 2 := ⟨TX6, 41, rfl, k_1186, k_68, k_1184, k_1185, k_1183, ⟨by decide +kernel, by decide +kernel, by decide +kernel⟩, by decide⟩
theorem mt_L_138 : MV RL 138 5 yX5_surest cX5_surest 3 (some .int) 2 := ⟨TX5, 13, rfl, k_637, k_61, k_635, k_636, k_634, ⟨by decide +kernel, by decide +kernel, by decide +kernel⟩, by decide⟩
theorem mt_L_141 : MV RL 141 6 yX6_surest cX6_surest 4 (some .int) 2 := ⟨TX6, 41, rfl, k_1205, k_68, k_1203, k_1204, k_1202, ⟨by decide +kernel, by decide +kernel, by decide +kernel⟩, by decide⟩
theorem mt_L_142 : MV RL 142 5 yX5_astray cX5_astray 1 (some .int) 0 := ⟨TX5, 13, rfl, k_641, k_61, k_639, k_640, k_638, ⟨by decide +kernel, by decide +kernel, by decide +kernel⟩, by decide⟩
theorem mt_L_145 : MV RL 145 6 yX6_astray cX6_astray 1 (some .int) 0 := ⟨TX6, 41, rfl, k_1209, k_68, k_1207, k_1208, k_1206, ⟨by decide +kernel, by decide +kernel, by decide +kernel⟩, by decide⟩
theorem mt_L_146 : MV RL 146 5 yX5_helps cX5_helps 1 (some .int) 0 := ⟨TX5, 13, rfl, k_649, k_61, k_647, k_648, k_646, ⟨by decide +kernel, by decide +kernel, by decide +kernel⟩, by decide⟩
theorem mt_L_149 : MV RL 149 6 yX6_helps cX6_helps 1 (some .int) 0 := ⟨TX6, 41, rfl, k_1217, k_68, k_1215, k_1216, k_1214, ⟨by decide +kernel, by decide +kernel, by decide +kernel⟩, by decide⟩
theorem mt_L_150 : MV RL 150 5 yX5_odds cX5_odds 1 (some .int) 0 := ⟨TX5, 13, rfl, k_653, k_61, k_651, k_652, k_650, ⟨by decide +kernel, by decide +kernel, by decide +kernel⟩, by decide⟩
theorem mt_L_153 : MV RL 153 6 yX6_odds cX6_odds 1 (some .int) 0 := ⟨TX6, 41, rfl, k_1221, k_68, k_1219, k_1220, k_1218, ⟨by decide +kernel, by decide +kernel, by decide +kernel⟩, by decide⟩
theorem mt_L_154 : MV RL 154 5 yX5_best cX5_best 5 (some .int) 0 := ⟨TX5, 13, rfl, k_671, k_61, k_669, k_670, k_668, ⟨by decide +kernel, by decide +kernel, by decide +kernel⟩, by decide⟩
theorem mt_L_157 : MV RL 157 6 yX6_best cX6_best 5 (some .int) 0 := ⟨TX6, 41, rfl, k_1233, k_68, k_1231, k_1232, k_1230, ⟨by decide +kernel, by decide +kernel, by decide +kernel⟩, by decide⟩
theorem mt_L_158 : MV RL 158 5 yX5_ways cX5_ways 3 (some .int) 1 := ⟨TX5, 13, rfl, k_675, k_61, k_673, k_674, k_672, ⟨by decide +kernel, by decide +kernel, by decide +kernel⟩, by decide⟩
theorem mt_L_161 : MV RL 161 6 yX6_ways cX6_ways 5 (some .int) 1 := ⟨TX6, 41, rfl, k_1237, k_68, k_1235, k_1236, k_1234, ⟨by decide +kernel, by decide +kernel, by decide +kernel⟩, by decide⟩
theorem mt_L_162 : MV RL 162 5 yX5_sure cX5_sure 2 (some .int) 1 := ⟨TX5, 13, rfl, k_683, k_61, k_681, k_682, k_680, ⟨by decide +kernel, by decide +kernel, by decide +kernel⟩, by decide⟩
theorem mt_L_165 : MV RL 165 6 yX6_sure cX6_sure 4 (some .int) 1 := ⟨TX6, 41, rfl, k_1245, k_68, k_1243, k_1244, k_1242, ⟨by decide +kernel, by decide +kernel, by decide +kernel⟩, by decide⟩
theorem mt_L_166 : MV RL 166 5 yX5_was cX5_was 5 (some .int) 2 := ⟨TX5, 13, rfl, k_692, k_61, k_690, k_691, k_689, ⟨by decide +kernel, by decide +kernel, by decide +kernel⟩, by decide⟩
theorem mt_L_169 : MV RL 169 6 yX6_was cX6_was 7 (some .int) 2 := ⟨TX6, 41, rfl, k_1249, k_68, k_1247, k_1248, k_1246, ⟨by decide +kernel, by decide +kernel, by decide +kernel⟩, by decide⟩
theorem mt_L_170 : MV RL 170 5 yX5_bare cX5_bare 2 (some .int) 0 := ⟨TX5, 13, rfl, k_700, k_61, k_698, k_699, k_697, ⟨by decide +kernel, by decide +kernel, by decide +kernel⟩, by decide⟩
theorem mt_L_173 : MV RL 173 6 yX6_bare cX6_bare 2 (some .int) 0 := ⟨TX6, 41, rfl, k_1253, k_68, k_1251, k_1252, k_1250, ⟨by decide +kernel, by decide +kernel, by decide +kernel⟩, by decide⟩
theorem mt_L_174 : MV RL 174 5 yX5_lots cX5_lots 7 (some .int) 2 := ⟨TX5, 13, rfl, k_708, k_61, k_706, k_707, k_705, ⟨by decide +kernel, by decide +kernel, by decide +kernel⟩, by decide⟩
theorem mt_L_177 : MV RL 177 6 yX6_lots cX6_lots 9 (some .int) 2 := ⟨TX6, 41, rfl, k_1257, k_68, k_1255, k_1256, k_1254, ⟨by decide +kernel, by decide +kernel, by decide +kernel⟩, by decide⟩
theorem mt_L_178 : MV RL 178 5 yX5_asked cX5_asked 1 (some .int) 0 := ⟨TX5, 13, rfl, k_720, k_61, k_718, k_719, k_717, ⟨by decide +kernel, by decide +kernel, by decide +kernel⟩, by decide⟩
theorem mt_L_181 : MV RL 181 6 yX6_asked cX6_asked 1 (some .int) 0 := ⟨TX6, 41, rfl, k_918, k_68, k_916, k_917, k_915, ⟨by decide +kernel, by decide +kernel, by decide +kernel⟩, by decide⟩
theorem mt_L_182 : MV RL 182 5 yX5_upper cX5_upper 1 (some .long) 0 := ⟨TX5, 13, rfl, k_724, k_61, k_722, k_723, k_721, ⟨by decide +kernel, by decide +kernel, by decide +kernel⟩, by decide⟩
theorem mt_L_186 : MV RL 186 6 yX6_upper cX6_upper 1 (some .long) 0 := ⟨TX6, 41, rfl, k_922, k_68, k_920, k_921, k_919, ⟨by decide +kernel, by decide +kernel, by decide +kernel⟩, by decide⟩
theorem mt_L_187 : MV RL 187 5 yX5_lower cX5_lower 1 (some .long) 0 := ⟨TX5, 13, rfl, k_728, k_61, k_726, k_727, k_725, ⟨by decide +kernel, by decide +kernel, by decide +kernel⟩, by decide⟩
theorem mt_L_190 : MV RL 190 6 yX6_lower cX6_lower 1 (some .long) 0 := ⟨TX6, 41, rfl, k_926, k_68, k_924, k_925, k_923, ⟨by decide +kernel, by decide +kernel, by decide +kernel⟩, by decide⟩
theorem mt_L_191 : MV RL 191 5 yX5_count cX5_count 2 (some .int) 1 := ⟨TX5, 13, rfl, k_732, k_61, k_730, k_731, k_729, ⟨by decide +kernel, by decide +kernel, by decide +kernel⟩, by decide⟩
theorem mt_L_194 : MV RL 194 6 yX6_count cX6_count 2 (some .int) 1 := ⟨TX6, 41, rfl, k_1267, k_68, k_1265, k_1266, k_1264, ⟨by decide +kernel, by decide +kernel, by decide +kernel⟩, by decide⟩
theorem mt_L_195 : MV RL 195 5 yX5_finding cX5_finding 1 (some .int) 0 := ⟨TX5, 13, rfl, k_748, k_61, k_746, k_747, k_745, ⟨by decide +kernel, by decide +kernel, by decide +kernel⟩, by decide⟩
theorem mt_L_198 : MV RL 198 6 yX6_finding cX6_finding 1 (some .int) 0 := ⟨TX6, 41, rfl, k_907, k_68, k_905, k_906, k_904, ⟨by decide +kernel, by decide +kernel, by decide +kernel⟩, by decide⟩
theorem mt_L_199 : MV RL 199 5 yX5_findings cX5_findings 2 (some .int) 1 := ⟨TX5, 13, rfl, k_752, k_61, k_750, k_751, k_749, ⟨by decide +kernel, by decide +kernel, by decide +kernel⟩, by decide⟩
theorem mt_L_202 : MV RL 202 6 yX6_findings cX6_findings 2 (some .int) 1 := ⟨TX6, 41, rfl, k_911, k_68, k_909, k_910, k_908, ⟨by decide +kernel, by decide +kernel, by decide +kernel⟩, by decide⟩
theorem mt_L_203 : MV RL 203 5 yX5_digest cX5_digest 4 (some .long) 0 := ⟨TX5, 13, rfl, k_756, k_61, k_754, k_755, k_753, ⟨by decide +kernel, by decide +kernel, by decide +kernel⟩, by decide⟩
theorem mt_L_206 : MV RL 206 6 yX6_digest cX6_digest 3 (some .long) 0 := ⟨TX6, 41, rfl, k_1283, k_68, k_1281, k_1282, k_1280, ⟨by decide +kernel, by decide +kernel, by decide +kernel⟩, by decide⟩
/-! THE LAW's loop -/
def XS (x : SB) (b L : Nat) (xs : Nat → Int32) : Prop := va_X b L xs x.1.2.2.2.2.1 x.1.2.2.2.2.1.heap ∧ b < x.1.2.2.2.2.1.heap.size ∧ ¬ x.2.1.2.2.2 b
section
variable {α : Type} {x : SB} {F : α → Prop} {o : Option α} {cc : ByteArray} {own : String} {d pc : Nat} {lv : List (Nat × Value)} {st : List Value} {M : Mm} {b L : Nat} {xs : Nat → Int32}
theorem r_ildx {i : Int32} {K : Int32 → Option α} (X : CX x cc own d) (HX : XS x b L xs) (hd : decode cc pc = .ok (.iaload, 1)) (kk : ∀ v, SIM x F (K v) (pc + 1) lv (.int v :: st) M) : SIM x F (ldS xs L i K) pc lv (.int i :: .ref b :: st) M := by
  obtain ⟨⟨p, l, e, R, s, m, args, below, meth, c⟩, g, Q, nL, cells, slots⟩ := x
  obtain ⟨hx, hb, hml, hown, hts, hR, hV, hZ, hJ⟩ := id X
  intro ho ls H locs hl hP hS
  obtain ⟨w, ho, hF⟩ := ho
  unfold ldS at ho
  by_cases h0 : ¬ (i < 0 ∨ L ≤ i.toNatClampNeg)
  · rw [if_pos h0] at ho
    exact va_sld hx hb HX.1 HX.2.1 HX.2.2 hS h0 hd (kk _ ⟨w, ho, hF⟩ ls H locs hl hP hS)
  · rw [if_neg h0] at ho
    cases ho
theorem r_alenx (X : CX x cc own d) (HX : XS x b L xs) (hd : decode cc pc = .ok (.arraylength, 1)) (kk : SIM x F o (pc + 1) lv (.int (Int32.ofNat L) :: st) M) : SIM x F o pc lv (.ref b :: st) M := by
  obtain ⟨⟨p, l, e, R, s, m, args, below, meth, c⟩, g, Q, nL, cells, slots⟩ := x
  obtain ⟨hx, hb, hml, hown, hts, hR, hV, hZ, hJ⟩ := id X
  intro ho ls H locs hl hP hS
  exact va_slen hx hb HX.1 HX.2.1 HX.2.2 hS hd (kk ho ls H locs hl hP hS)
end
def pL_law (x : SB) (b : Nat) (q : Nat × Nat × Nat × Int32 × Mm) : Prop := match q.1 with
  | 1 => sh q.2.1 = 15 → sh q.2.2.1 = 16 → ∀ (ls : Array Slot) (H : Heap) (locs : List Loc), lv_has ls x.2.2.2.1 [(0, .ref b), (1, rf x.2.1 q.2.1), (2, rf x.2.1 q.2.2.1), (3, .int q.2.2.2.1)] → PW x.2.1 (q.2.2.2.2) H → SH x H locs → SW x H locs 18 ls []
  | _ => True
set_option maxRecDepth 100000 in
noncomputable def bL_law_1380 (xs : Nat → Int32) (L : Nat) (l1 l2 : Nat) (l3 : Int32) (M : Mm) : Option ((Nat × Nat × Nat × Int32 × Mm) ⊕ Int32 × Mm) := some (.inl (1, l1, l2, (l3 + 6), M))
set_option maxRecDepth 100000 in
set_option maxHeartbeats 4000000 in
theorem sL_law_1380 {x : SB} {b L : Nat} {xs : Nat → Int32} {F : ((Nat × Nat × Nat × Int32 × Mm) ⊕ Int32 × Mm) → Prop} (X : CX x cL_law RL 10) (hL : x.2.2.2.1 = 4) (HX : XS x b L xs) (Hr : RTI x cL_law .boolean F Sum.inr) (HH : ∀ q, F (.inl q) → pL_law x b q) {l1 l2 : Nat} {l3 : Int32} {M : Mm} (h_l1 : sh l1 = 15) (h_l2 : sh l2 = 16) : SIM x F (bL_law_1380 xs L l1 l2 l3 M) 1380 [(0, .ref b), (1, rf x.2.1 l1), (2, rf x.2.1 l2), (3, .int l3)] [] M := by
  unfold bL_law_1380
  refine r_iinc [(3, .int (l3 + 6)), (0, .ref b), (1, rf x.2.1 l1), (2, rf x.2.1 l2)] X dL_law_1380 3 rfl rfl (nlt hL (by decide)) rfl ?_
  refine r_goto 18 X dL_law_1383 (by decide) ?_
  exact r_hdr [(0, .ref b), (1, rf x.2.1 l1), (2, rf x.2.1 l2), (3, .int (l3 + 6))] [1, 2, 3, 0] rfl (fun h => HH _ h h_l1 h_l2)
set_option maxRecDepth 100000 in
noncomputable def cL_0 (xs : Nat → Int32) (L : Nat) (l1 l2 : Nat) (l3 : Int32) (M : Mm) : Option ((Nat × Nat × Nat × Int32 × Mm) ⊕ Int32 × Mm) := ldS xs L (l3 + 1) fun v3 => ldS xs L (l3 + 2) fun v4 => cal (fX5_row l1 v3 v4 M) fun v6 M5 => ldS xs L (l3 + 1) fun v7 => ldS xs L (l3 + 2) fun v8 => cal (fX6_row l2 v7 v8 M5) fun v10 M9 => if v6 = v10 then bL_law_1380 xs L l1 l2 l3 M9 else some (.inr (0, M9))
set_option maxRecDepth 100000 in
set_option maxHeartbeats 4000000 in
theorem tL_0 {x : SB} {b L : Nat} {xs : Nat → Int32} {F : ((Nat × Nat × Nat × Int32 × Mm) ⊕ Int32 × Mm) → Prop} (X : CX x cL_law RL 10) (hL : x.2.2.2.1 = 4) (HX : XS x b L xs) (Hr : RTI x cL_law .boolean F Sum.inr) (HH : ∀ q, F (.inl q) → pL_law x b q) {l1 l2 : Nat} {l3 : Int32} {M : Mm} (h_l1 : sh l1 = 15) (h_l2 : sh l2 = 16) : SIM x F (cL_0 xs L l1 l2 l3 M) 236 [(0, .ref b), (1, rf x.2.1 l1), (2, rf x.2.1 l2), (3, .int l3)] [] M := by
  unfold cL_0
  refine r_aload_n X dL_law_236 rfl 1 rfl ?_
  refine r_aload_n X dL_law_237 rfl 0 rfl ?_
  refine r_iload_n X dL_law_238 rfl 3 rfl ?_
  refine r_iconst (v := 1) X dL_law_239 (by decide) ?_
  refine r_iadd X dL_law_240 ?_
  refine r_ildx X HX dL_law_241 (fun v3 => ?_)
  refine r_aload_n X dL_law_242 rfl 0 rfl ?_
  refine r_iload_n X dL_law_243 rfl 3 rfl ?_
  refine r_iconst (v := 2) X dL_law_244 (by decide) ?_
  refine r_iadd X dL_law_245 ?_
  refine r_ildx X HX dL_law_246 (fun v4 => ?_)
  refine r_callVI [.int v3, .int v4] X mt_L_13 (by decide) h_l1 (by decide) (okX5_row _ _ X.J h_l1) rfl (Nat.le_of_ble_eq_true rfl) dL_law_247 rfl (fun v6 M5 => ?_)
  refine r_aload_n X dL_law_250 rfl 2 rfl ?_
  refine r_aload_n X dL_law_251 rfl 0 rfl ?_
  refine r_iload_n X dL_law_252 rfl 3 rfl ?_
  refine r_iconst (v := 1) X dL_law_253 (by decide) ?_
  refine r_iadd X dL_law_254 ?_
  refine r_ildx X HX dL_law_255 (fun v7 => ?_)
  refine r_aload_n X dL_law_256 rfl 0 rfl ?_
  refine r_iload_n X dL_law_257 rfl 3 rfl ?_
  refine r_iconst (v := 2) X dL_law_258 (by decide) ?_
  refine r_iadd X dL_law_259 ?_
  refine r_ildx X HX dL_law_260 (fun v8 => ?_)
  refine r_callVI [.int v7, .int v8] X mt_L_17 (by decide) h_l2 (by decide) (okX6_row _ _ X.J h_l2) rfl (Nat.le_of_ble_eq_true rfl) dL_law_261 rfl (fun v10 M9 => ?_)
  refine r_icmp_eq 1380 X dL_law_264 (by decide) ?_ ?_
  · exact r_to [(0, .ref b), (1, rf x.2.1 l1), (2, rf x.2.1 l2), (3, .int l3)] [0, 1, 2, 3] rfl (sL_law_1380 X hL HX Hr HH h_l1 h_l2)
  · refine r_iconst (v := 0) X dL_law_267 (by decide) ?_
    exact r_iret Hr rfl dL_law_268
set_option maxRecDepth 100000 in
noncomputable def cL_1 (xs : Nat → Int32) (L : Nat) (l1 l2 : Nat) (l3 : Int32) (M : Mm) : Option ((Nat × Nat × Nat × Int32 × Mm) ⊕ Int32 × Mm) := ldS xs L (l3 + 1) fun v11 => ldS xs L (l3 + 2) fun v12 => ldS xs L (l3 + 3) fun v13 => cal (fX5_lay l1 v11 v12 v13 M) fun v15 M14 => ldS xs L (l3 + 1) fun v16 => ldS xs L (l3 + 2) fun v17 => ldS xs L (l3 + 3) fun v18 => cal (fX6_lay l2 v16 v17 v18 M14) fun v20 M19 => if v15 = v20 then bL_law_1380 xs L l1 l2 l3 M19 else some (.inr (0, M19))
set_option maxRecDepth 100000 in
set_option maxHeartbeats 4000000 in
theorem tL_1 {x : SB} {b L : Nat} {xs : Nat → Int32} {F : ((Nat × Nat × Nat × Int32 × Mm) ⊕ Int32 × Mm) → Prop} (X : CX x cL_law RL 10) (hL : x.2.2.2.1 = 4) (HX : XS x b L xs) (Hr : RTI x cL_law .boolean F Sum.inr) (HH : ∀ q, F (.inl q) → pL_law x b q) {l1 l2 : Nat} {l3 : Int32} {M : Mm} (h_l1 : sh l1 = 15) (h_l2 : sh l2 = 16) : SIM x F (cL_1 xs L l1 l2 l3 M) 269 [(0, .ref b), (1, rf x.2.1 l1), (2, rf x.2.1 l2), (3, .int l3)] [] M := by
  unfold cL_1
  refine r_aload_n X dL_law_269 rfl 1 rfl ?_
  refine r_aload_n X dL_law_270 rfl 0 rfl ?_
  refine r_iload_n X dL_law_271 rfl 3 rfl ?_
  refine r_iconst (v := 1) X dL_law_272 (by decide) ?_
  refine r_iadd X dL_law_273 ?_
  refine r_ildx X HX dL_law_274 (fun v11 => ?_)
  refine r_aload_n X dL_law_275 rfl 0 rfl ?_
  refine r_iload_n X dL_law_276 rfl 3 rfl ?_
  refine r_iconst (v := 2) X dL_law_277 (by decide) ?_
  refine r_iadd X dL_law_278 ?_
  refine r_ildx X HX dL_law_279 (fun v12 => ?_)
  refine r_aload_n X dL_law_280 rfl 0 rfl ?_
  refine r_iload_n X dL_law_281 rfl 3 rfl ?_
  refine r_iconst (v := 3) X dL_law_282 (by decide) ?_
  refine r_iadd X dL_law_283 ?_
  refine r_ildx X HX dL_law_284 (fun v13 => ?_)
  refine r_callVI [.int v11, .int v12, .int v13] X mt_L_18 (by decide) h_l1 (by decide) (okX5_lay _ _ X.J h_l1) rfl (Nat.le_of_ble_eq_true rfl) dL_law_285 rfl (fun v15 M14 => ?_)
  refine r_aload_n X dL_law_288 rfl 2 rfl ?_
  refine r_aload_n X dL_law_289 rfl 0 rfl ?_
  refine r_iload_n X dL_law_290 rfl 3 rfl ?_
  refine r_iconst (v := 1) X dL_law_291 (by decide) ?_
  refine r_iadd X dL_law_292 ?_
  refine r_ildx X HX dL_law_293 (fun v16 => ?_)
  refine r_aload_n X dL_law_294 rfl 0 rfl ?_
  refine r_iload_n X dL_law_295 rfl 3 rfl ?_
  refine r_iconst (v := 2) X dL_law_296 (by decide) ?_
  refine r_iadd X dL_law_297 ?_
  refine r_ildx X HX dL_law_298 (fun v17 => ?_)
  refine r_aload_n X dL_law_299 rfl 0 rfl ?_
  refine r_iload_n X dL_law_300 rfl 3 rfl ?_
  refine r_iconst (v := 3) X dL_law_301 (by decide) ?_
  refine r_iadd X dL_law_302 ?_
  refine r_ildx X HX dL_law_303 (fun v18 => ?_)
  refine r_callVI [.int v16, .int v17, .int v18] X mt_L_22 (by decide) h_l2 (by decide) (okX6_lay _ _ X.J h_l2) rfl (Nat.le_of_ble_eq_true rfl) dL_law_304 rfl (fun v20 M19 => ?_)
  refine r_icmp_eq 1380 X dL_law_307 (by decide) ?_ ?_
  · exact r_to [(0, .ref b), (1, rf x.2.1 l1), (2, rf x.2.1 l2), (3, .int l3)] [0, 1, 2, 3] rfl (sL_law_1380 X hL HX Hr HH h_l1 h_l2)
  · refine r_iconst (v := 0) X dL_law_310 (by decide) ?_
    exact r_iret Hr rfl dL_law_311
set_option maxRecDepth 100000 in
noncomputable def cL_2 (xs : Nat → Int32) (L : Nat) (l1 l2 : Nat) (l3 : Int32) (M : Mm) : Option ((Nat × Nat × Nat × Int32 × Mm) ⊕ Int32 × Mm) := ldS xs L (l3 + 1) fun v21 => ldS xs L (l3 + 2) fun v22 => cal (fX5_at l1 v21 v22 M) fun v24 M23 => ldS xs L (l3 + 1) fun v25 => ldS xs L (l3 + 2) fun v26 => cal (fX6_at l2 v25 v26 M23) fun v28 M27 => if v24 = v28 then bL_law_1380 xs L l1 l2 l3 M27 else some (.inr (0, M27))
set_option maxRecDepth 100000 in
set_option maxHeartbeats 4000000 in
theorem tL_2 {x : SB} {b L : Nat} {xs : Nat → Int32} {F : ((Nat × Nat × Nat × Int32 × Mm) ⊕ Int32 × Mm) → Prop} (X : CX x cL_law RL 10) (hL : x.2.2.2.1 = 4) (HX : XS x b L xs) (Hr : RTI x cL_law .boolean F Sum.inr) (HH : ∀ q, F (.inl q) → pL_law x b q) {l1 l2 : Nat} {l3 : Int32} {M : Mm} (h_l1 : sh l1 = 15) (h_l2 : sh l2 = 16) : SIM x F (cL_2 xs L l1 l2 l3 M) 312 [(0, .ref b), (1, rf x.2.1 l1), (2, rf x.2.1 l2), (3, .int l3)] [] M := by
  unfold cL_2
  refine r_aload_n X dL_law_312 rfl 1 rfl ?_
  refine r_aload_n X dL_law_313 rfl 0 rfl ?_
  refine r_iload_n X dL_law_314 rfl 3 rfl ?_
  refine r_iconst (v := 1) X dL_law_315 (by decide) ?_
  refine r_iadd X dL_law_316 ?_
  refine r_ildx X HX dL_law_317 (fun v21 => ?_)
  refine r_aload_n X dL_law_318 rfl 0 rfl ?_
  refine r_iload_n X dL_law_319 rfl 3 rfl ?_
  refine r_iconst (v := 2) X dL_law_320 (by decide) ?_
  refine r_iadd X dL_law_321 ?_
  refine r_ildx X HX dL_law_322 (fun v22 => ?_)
  refine r_callVI [.int v21, .int v22] X mt_L_23 (by decide) h_l1 (by decide) (okX5_at _ _ X.J h_l1) rfl (Nat.le_of_ble_eq_true rfl) dL_law_323 rfl (fun v24 M23 => ?_)
  refine r_aload_n X dL_law_326 rfl 2 rfl ?_
  refine r_aload_n X dL_law_327 rfl 0 rfl ?_
  refine r_iload_n X dL_law_328 rfl 3 rfl ?_
  refine r_iconst (v := 1) X dL_law_329 (by decide) ?_
  refine r_iadd X dL_law_330 ?_
  refine r_ildx X HX dL_law_331 (fun v25 => ?_)
  refine r_aload_n X dL_law_332 rfl 0 rfl ?_
  refine r_iload_n X dL_law_333 rfl 3 rfl ?_
  refine r_iconst (v := 2) X dL_law_334 (by decide) ?_
  refine r_iadd X dL_law_335 ?_
  refine r_ildx X HX dL_law_336 (fun v26 => ?_)
  refine r_callVI [.int v25, .int v26] X mt_L_26 (by decide) h_l2 (by decide) (okX6_at _ _ X.J h_l2) rfl (Nat.le_of_ble_eq_true rfl) dL_law_337 rfl (fun v28 M27 => ?_)
  refine r_icmp_eq 1380 X dL_law_340 (by decide) ?_ ?_
  · exact r_to [(0, .ref b), (1, rf x.2.1 l1), (2, rf x.2.1 l2), (3, .int l3)] [0, 1, 2, 3] rfl (sL_law_1380 X hL HX Hr HH h_l1 h_l2)
  · refine r_iconst (v := 0) X dL_law_343 (by decide) ?_
    exact r_iret Hr rfl dL_law_344
set_option maxRecDepth 100000 in
noncomputable def cL_3 (xs : Nat → Int32) (L : Nat) (l1 l2 : Nat) (l3 : Int32) (M : Mm) : Option ((Nat × Nat × Nat × Int32 × Mm) ⊕ Int32 × Mm) := ldS xs L (l3 + 1) fun v29 => cal (fX5_tear l1 v29 M) fun v31 M30 => ldS xs L (l3 + 1) fun v32 => cal (fX6_tear l2 v32 M30) fun v34 M33 => if v31 = v34 then bL_law_1380 xs L l1 l2 l3 M33 else some (.inr (0, M33))
set_option maxRecDepth 100000 in
set_option maxHeartbeats 4000000 in
theorem tL_3 {x : SB} {b L : Nat} {xs : Nat → Int32} {F : ((Nat × Nat × Nat × Int32 × Mm) ⊕ Int32 × Mm) → Prop} (X : CX x cL_law RL 10) (hL : x.2.2.2.1 = 4) (HX : XS x b L xs) (Hr : RTI x cL_law .boolean F Sum.inr) (HH : ∀ q, F (.inl q) → pL_law x b q) {l1 l2 : Nat} {l3 : Int32} {M : Mm} (h_l1 : sh l1 = 15) (h_l2 : sh l2 = 16) : SIM x F (cL_3 xs L l1 l2 l3 M) 345 [(0, .ref b), (1, rf x.2.1 l1), (2, rf x.2.1 l2), (3, .int l3)] [] M := by
  unfold cL_3
  refine r_aload_n X dL_law_345 rfl 1 rfl ?_
  refine r_aload_n X dL_law_346 rfl 0 rfl ?_
  refine r_iload_n X dL_law_347 rfl 3 rfl ?_
  refine r_iconst (v := 1) X dL_law_348 (by decide) ?_
  refine r_iadd X dL_law_349 ?_
  refine r_ildx X HX dL_law_350 (fun v29 => ?_)
  refine r_callVI [.int v29] X mt_L_27 (by decide) h_l1 (by decide) (okX5_tear _ _ X.J h_l1) rfl (Nat.le_of_ble_eq_true rfl) dL_law_351 rfl (fun v31 M30 => ?_)
  refine r_aload_n X dL_law_354 rfl 2 rfl ?_
  refine r_aload_n X dL_law_355 rfl 0 rfl ?_
  refine r_iload_n X dL_law_356 rfl 3 rfl ?_
  refine r_iconst (v := 1) X dL_law_357 (by decide) ?_
  refine r_iadd X dL_law_358 ?_
  refine r_ildx X HX dL_law_359 (fun v32 => ?_)
  refine r_callVI [.int v32] X mt_L_31 (by decide) h_l2 (by decide) (okX6_tear _ _ X.J h_l2) rfl (Nat.le_of_ble_eq_true rfl) dL_law_360 rfl (fun v34 M33 => ?_)
  refine r_icmp_eq 1380 X dL_law_363 (by decide) ?_ ?_
  · exact r_to [(0, .ref b), (1, rf x.2.1 l1), (2, rf x.2.1 l2), (3, .int l3)] [0, 1, 2, 3] rfl (sL_law_1380 X hL HX Hr HH h_l1 h_l2)
  · refine r_iconst (v := 0) X dL_law_366 (by decide) ?_
    exact r_iret Hr rfl dL_law_367
set_option maxRecDepth 100000 in
noncomputable def cL_4 (xs : Nat → Int32) (L : Nat) (l1 l2 : Nat) (l3 : Int32) (M : Mm) : Option ((Nat × Nat × Nat × Int32 × Mm) ⊕ Int32 × Mm) := ldS xs L (l3 + 1) fun v35 => ldS xs L (l3 + 2) fun v36 => ldS xs L (l3 + 3) fun v37 => ldS xs L (l3 + 4) fun v38 => ldS xs L (l3 + 5) fun v39 => cal (fX5_copy l1 v35 v36 v37 v38 v39 M) fun v41 M40 => ldS xs L (l3 + 1) fun v42 => ldS xs L (l3 + 2) fun v43 => ldS xs L (l3 + 3) fun v44 => ldS xs L (l3 + 4) fun v45 => ldS xs L (l3 + 5) fun v46 => cal (fX6_copy l2 v42 v43 v44 v45 v46 M40) fun v48 M47 => if v41 = v48 then bL_law_1380 xs L l1 l2 l3 M47 else some (.inr (0, M47))
set_option maxRecDepth 100000 in
set_option maxHeartbeats 4000000 in
theorem tL_4 {x : SB} {b L : Nat} {xs : Nat → Int32} {F : ((Nat × Nat × Nat × Int32 × Mm) ⊕ Int32 × Mm) → Prop} (X : CX x cL_law RL 10) (hL : x.2.2.2.1 = 4) (HX : XS x b L xs) (Hr : RTI x cL_law .boolean F Sum.inr) (HH : ∀ q, F (.inl q) → pL_law x b q) {l1 l2 : Nat} {l3 : Int32} {M : Mm} (h_l1 : sh l1 = 15) (h_l2 : sh l2 = 16) : SIM x F (cL_4 xs L l1 l2 l3 M) 368 [(0, .ref b), (1, rf x.2.1 l1), (2, rf x.2.1 l2), (3, .int l3)] [] M := by
  unfold cL_4
  refine r_aload_n X dL_law_368 rfl 1 rfl ?_
  refine r_aload_n X dL_law_369 rfl 0 rfl ?_
  refine r_iload_n X dL_law_370 rfl 3 rfl ?_
  refine r_iconst (v := 1) X dL_law_371 (by decide) ?_
  refine r_iadd X dL_law_372 ?_
  refine r_ildx X HX dL_law_373 (fun v35 => ?_)
  refine r_aload_n X dL_law_374 rfl 0 rfl ?_
  refine r_iload_n X dL_law_375 rfl 3 rfl ?_
  refine r_iconst (v := 2) X dL_law_376 (by decide) ?_
  refine r_iadd X dL_law_377 ?_
  refine r_ildx X HX dL_law_378 (fun v36 => ?_)
  refine r_aload_n X dL_law_379 rfl 0 rfl ?_
  refine r_iload_n X dL_law_380 rfl 3 rfl ?_
  refine r_iconst (v := 3) X dL_law_381 (by decide) ?_
  refine r_iadd X dL_law_382 ?_
  refine r_ildx X HX dL_law_383 (fun v37 => ?_)
  refine r_aload_n X dL_law_384 rfl 0 rfl ?_
  refine r_iload_n X dL_law_385 rfl 3 rfl ?_
  refine r_iconst (v := 4) X dL_law_386 (by decide) ?_
  refine r_iadd X dL_law_387 ?_
  refine r_ildx X HX dL_law_388 (fun v38 => ?_)
  refine r_aload_n X dL_law_389 rfl 0 rfl ?_
  refine r_iload_n X dL_law_390 rfl 3 rfl ?_
  refine r_iconst (v := 5) X dL_law_391 (by decide) ?_
  refine r_iadd X dL_law_392 ?_
  refine r_ildx X HX dL_law_393 (fun v39 => ?_)
  refine r_callVI [.int v35, .int v36, .int v37, .int v38, .int v39] X mt_L_32 (by decide) h_l1 (by decide) (okX5_copy _ _ X.J h_l1) rfl (Nat.le_of_ble_eq_true rfl) dL_law_394 rfl (fun v41 M40 => ?_)
  refine r_aload_n X dL_law_397 rfl 2 rfl ?_
  refine r_aload_n X dL_law_398 rfl 0 rfl ?_
  refine r_iload_n X dL_law_399 rfl 3 rfl ?_
  refine r_iconst (v := 1) X dL_law_400 (by decide) ?_
  refine r_iadd X dL_law_401 ?_
  refine r_ildx X HX dL_law_402 (fun v42 => ?_)
  refine r_aload_n X dL_law_403 rfl 0 rfl ?_
  refine r_iload_n X dL_law_404 rfl 3 rfl ?_
  refine r_iconst (v := 2) X dL_law_405 (by decide) ?_
  refine r_iadd X dL_law_406 ?_
  refine r_ildx X HX dL_law_407 (fun v43 => ?_)
  refine r_aload_n X dL_law_408 rfl 0 rfl ?_
  refine r_iload_n X dL_law_409 rfl 3 rfl ?_
  refine r_iconst (v := 3) X dL_law_410 (by decide) ?_
  refine r_iadd X dL_law_411 ?_
  refine r_ildx X HX dL_law_412 (fun v44 => ?_)
  refine r_aload_n X dL_law_413 rfl 0 rfl ?_
  refine r_iload_n X dL_law_414 rfl 3 rfl ?_
  refine r_iconst (v := 4) X dL_law_415 (by decide) ?_
  refine r_iadd X dL_law_416 ?_
  refine r_ildx X HX dL_law_417 (fun v45 => ?_)
  refine r_aload_n X dL_law_418 rfl 0 rfl ?_
  refine r_iload_n X dL_law_419 rfl 3 rfl ?_
  refine r_iconst (v := 5) X dL_law_420 (by decide) ?_
  refine r_iadd X dL_law_421 ?_
  refine r_ildx X HX dL_law_422 (fun v46 => ?_)
  refine r_callVI [.int v42, .int v43, .int v44, .int v45, .int v46] X mt_L_36 (by decide) h_l2 (by decide) (okX6_copy _ _ X.J h_l2) rfl (Nat.le_of_ble_eq_true rfl) dL_law_423 rfl (fun v48 M47 => ?_)
  refine r_icmp_eq 1380 X dL_law_426 (by decide) ?_ ?_
  · exact r_to [(0, .ref b), (1, rf x.2.1 l1), (2, rf x.2.1 l2), (3, .int l3)] [0, 1, 2, 3] rfl (sL_law_1380 X hL HX Hr HH h_l1 h_l2)
  · refine r_iconst (v := 0) X dL_law_429 (by decide) ?_
    exact r_iret Hr rfl dL_law_430
set_option maxRecDepth 100000 in
noncomputable def cL_5 (xs : Nat → Int32) (L : Nat) (l1 l2 : Nat) (l3 : Int32) (M : Mm) : Option ((Nat × Nat × Nat × Int32 × Mm) ⊕ Int32 × Mm) := ldS xs L (l3 + 1) fun v49 => cal (fX5_mean l1 v49 M) fun v51 M50 => ldS xs L (l3 + 1) fun v52 => cal (fX6_mean l2 v52 M50) fun v54 M53 => if v51 = v54 then bL_law_1380 xs L l1 l2 l3 M53 else some (.inr (0, M53))
set_option maxRecDepth 100000 in
set_option maxHeartbeats 4000000 in
theorem tL_5 {x : SB} {b L : Nat} {xs : Nat → Int32} {F : ((Nat × Nat × Nat × Int32 × Mm) ⊕ Int32 × Mm) → Prop} (X : CX x cL_law RL 10) (hL : x.2.2.2.1 = 4) (HX : XS x b L xs) (Hr : RTI x cL_law .boolean F Sum.inr) (HH : ∀ q, F (.inl q) → pL_law x b q) {l1 l2 : Nat} {l3 : Int32} {M : Mm} (h_l1 : sh l1 = 15) (h_l2 : sh l2 = 16) : SIM x F (cL_5 xs L l1 l2 l3 M) 431 [(0, .ref b), (1, rf x.2.1 l1), (2, rf x.2.1 l2), (3, .int l3)] [] M := by
  unfold cL_5
  refine r_aload_n X dL_law_431 rfl 1 rfl ?_
  refine r_aload_n X dL_law_432 rfl 0 rfl ?_
  refine r_iload_n X dL_law_433 rfl 3 rfl ?_
  refine r_iconst (v := 1) X dL_law_434 (by decide) ?_
  refine r_iadd X dL_law_435 ?_
  refine r_ildx X HX dL_law_436 (fun v49 => ?_)
  refine r_callVI [.int v49] X mt_L_37 (by decide) h_l1 (by decide) (okX5_mean _ _ X.J h_l1) rfl (Nat.le_of_ble_eq_true rfl) dL_law_437 rfl (fun v51 M50 => ?_)
  refine r_aload_n X dL_law_440 rfl 2 rfl ?_
  refine r_aload_n X dL_law_441 rfl 0 rfl ?_
  refine r_iload_n X dL_law_442 rfl 3 rfl ?_
  refine r_iconst (v := 1) X dL_law_443 (by decide) ?_
  refine r_iadd X dL_law_444 ?_
  refine r_ildx X HX dL_law_445 (fun v52 => ?_)
  refine r_callVI [.int v52] X mt_L_40 (by decide) h_l2 (by decide) (okX6_mean _ _ X.J h_l2) rfl (Nat.le_of_ble_eq_true rfl) dL_law_446 rfl (fun v54 M53 => ?_)
  refine r_icmp_eq 1380 X dL_law_449 (by decide) ?_ ?_
  · exact r_to [(0, .ref b), (1, rf x.2.1 l1), (2, rf x.2.1 l2), (3, .int l3)] [0, 1, 2, 3] rfl (sL_law_1380 X hL HX Hr HH h_l1 h_l2)
  · refine r_iconst (v := 0) X dL_law_452 (by decide) ?_
    exact r_iret Hr rfl dL_law_453
set_option maxRecDepth 100000 in
noncomputable def cL_6 (xs : Nat → Int32) (L : Nat) (l1 l2 : Nat) (l3 : Int32) (M : Mm) : Option ((Nat × Nat × Nat × Int32 × Mm) ⊕ Int32 × Mm) := ldS xs L (l3 + 1) fun v55 => ldS xs L (l3 + 2) fun v56 => cal (fX5_text l1 v55 v56 M) fun v58 M57 => ldS xs L (l3 + 1) fun v59 => ldS xs L (l3 + 2) fun v60 => cal (fX6_text l2 v59 v60 M57) fun v62 M61 => if v58 = v62 then bL_law_1380 xs L l1 l2 l3 M61 else some (.inr (0, M61))
set_option maxRecDepth 100000 in
set_option maxHeartbeats 4000000 in
theorem tL_6 {x : SB} {b L : Nat} {xs : Nat → Int32} {F : ((Nat × Nat × Nat × Int32 × Mm) ⊕ Int32 × Mm) → Prop} (X : CX x cL_law RL 10) (hL : x.2.2.2.1 = 4) (HX : XS x b L xs) (Hr : RTI x cL_law .boolean F Sum.inr) (HH : ∀ q, F (.inl q) → pL_law x b q) {l1 l2 : Nat} {l3 : Int32} {M : Mm} (h_l1 : sh l1 = 15) (h_l2 : sh l2 = 16) : SIM x F (cL_6 xs L l1 l2 l3 M) 454 [(0, .ref b), (1, rf x.2.1 l1), (2, rf x.2.1 l2), (3, .int l3)] [] M := by
  unfold cL_6
  refine r_aload_n X dL_law_454 rfl 1 rfl ?_
  refine r_aload_n X dL_law_455 rfl 0 rfl ?_
  refine r_iload_n X dL_law_456 rfl 3 rfl ?_
  refine r_iconst (v := 1) X dL_law_457 (by decide) ?_
  refine r_iadd X dL_law_458 ?_
  refine r_ildx X HX dL_law_459 (fun v55 => ?_)
  refine r_aload_n X dL_law_460 rfl 0 rfl ?_
  refine r_iload_n X dL_law_461 rfl 3 rfl ?_
  refine r_iconst (v := 2) X dL_law_462 (by decide) ?_
  refine r_iadd X dL_law_463 ?_
  refine r_ildx X HX dL_law_464 (fun v56 => ?_)
  refine r_callVI [.int v55, .int v56] X mt_L_41 (by decide) h_l1 (by decide) (okX5_text _ _ X.J h_l1) rfl (Nat.le_of_ble_eq_true rfl) dL_law_465 rfl (fun v58 M57 => ?_)
  refine r_aload_n X dL_law_468 rfl 2 rfl ?_
  refine r_aload_n X dL_law_469 rfl 0 rfl ?_
  refine r_iload_n X dL_law_470 rfl 3 rfl ?_
  refine r_iconst (v := 1) X dL_law_471 (by decide) ?_
  refine r_iadd X dL_law_472 ?_
  refine r_ildx X HX dL_law_473 (fun v59 => ?_)
  refine r_aload_n X dL_law_474 rfl 0 rfl ?_
  refine r_iload_n X dL_law_475 rfl 3 rfl ?_
  refine r_iconst (v := 2) X dL_law_476 (by decide) ?_
  refine r_iadd X dL_law_477 ?_
  refine r_ildx X HX dL_law_478 (fun v60 => ?_)
  refine r_callVI [.int v59, .int v60] X mt_L_44 (by decide) h_l2 (by decide) (okX6_text _ _ X.J h_l2) rfl (Nat.le_of_ble_eq_true rfl) dL_law_479 rfl (fun v62 M61 => ?_)
  refine r_icmp_eq 1380 X dL_law_482 (by decide) ?_ ?_
  · exact r_to [(0, .ref b), (1, rf x.2.1 l1), (2, rf x.2.1 l2), (3, .int l3)] [0, 1, 2, 3] rfl (sL_law_1380 X hL HX Hr HH h_l1 h_l2)
  · refine r_iconst (v := 0) X dL_law_485 (by decide) ?_
    exact r_iret Hr rfl dL_law_486
set_option maxRecDepth 100000 in
noncomputable def cL_7 (xs : Nat → Int32) (L : Nat) (l1 l2 : Nat) (l3 : Int32) (M : Mm) : Option ((Nat × Nat × Nat × Int32 × Mm) ⊕ Int32 × Mm) := ldS xs L (l3 + 1) fun v63 => ldS xs L (l3 + 2) fun v64 => ldS xs L (l3 + 3) fun v65 => cal (fX5_put l1 v63 v64 v65 M) fun v67 M66 => ldS xs L (l3 + 1) fun v68 => ldS xs L (l3 + 2) fun v69 => ldS xs L (l3 + 3) fun v70 => cal (fX6_put l2 v68 v69 v70 M66) fun v72 M71 => if v67 = v72 then bL_law_1380 xs L l1 l2 l3 M71 else some (.inr (0, M71))
set_option maxRecDepth 100000 in
set_option maxHeartbeats 4000000 in
theorem tL_7 {x : SB} {b L : Nat} {xs : Nat → Int32} {F : ((Nat × Nat × Nat × Int32 × Mm) ⊕ Int32 × Mm) → Prop} (X : CX x cL_law RL 10) (hL : x.2.2.2.1 = 4) (HX : XS x b L xs) (Hr : RTI x cL_law .boolean F Sum.inr) (HH : ∀ q, F (.inl q) → pL_law x b q) {l1 l2 : Nat} {l3 : Int32} {M : Mm} (h_l1 : sh l1 = 15) (h_l2 : sh l2 = 16) : SIM x F (cL_7 xs L l1 l2 l3 M) 487 [(0, .ref b), (1, rf x.2.1 l1), (2, rf x.2.1 l2), (3, .int l3)] [] M := by
  unfold cL_7
  refine r_aload_n X dL_law_487 rfl 1 rfl ?_
  refine r_aload_n X dL_law_488 rfl 0 rfl ?_
  refine r_iload_n X dL_law_489 rfl 3 rfl ?_
  refine r_iconst (v := 1) X dL_law_490 (by decide) ?_
  refine r_iadd X dL_law_491 ?_
  refine r_ildx X HX dL_law_492 (fun v63 => ?_)
  refine r_aload_n X dL_law_493 rfl 0 rfl ?_
  refine r_iload_n X dL_law_494 rfl 3 rfl ?_
  refine r_iconst (v := 2) X dL_law_495 (by decide) ?_
  refine r_iadd X dL_law_496 ?_
  refine r_ildx X HX dL_law_497 (fun v64 => ?_)
  refine r_aload_n X dL_law_498 rfl 0 rfl ?_
  refine r_iload_n X dL_law_499 rfl 3 rfl ?_
  refine r_iconst (v := 3) X dL_law_500 (by decide) ?_
  refine r_iadd X dL_law_501 ?_
  refine r_ildx X HX dL_law_502 (fun v65 => ?_)
  refine r_callVI [.int v63, .int v64, .int v65] X mt_L_45 (by decide) h_l1 (by decide) (okX5_put _ _ X.J h_l1) rfl (Nat.le_of_ble_eq_true rfl) dL_law_503 rfl (fun v67 M66 => ?_)
  refine r_aload_n X dL_law_506 rfl 2 rfl ?_
  refine r_aload_n X dL_law_507 rfl 0 rfl ?_
  refine r_iload_n X dL_law_508 rfl 3 rfl ?_
  refine r_iconst (v := 1) X dL_law_509 (by decide) ?_
  refine r_iadd X dL_law_510 ?_
  refine r_ildx X HX dL_law_511 (fun v68 => ?_)
  refine r_aload_n X dL_law_512 rfl 0 rfl ?_
  refine r_iload_n X dL_law_513 rfl 3 rfl ?_
  refine r_iconst (v := 2) X dL_law_514 (by decide) ?_
  refine r_iadd X dL_law_515 ?_
  refine r_ildx X HX dL_law_516 (fun v69 => ?_)
  refine r_aload_n X dL_law_517 rfl 0 rfl ?_
  refine r_iload_n X dL_law_518 rfl 3 rfl ?_
  refine r_iconst (v := 3) X dL_law_519 (by decide) ?_
  refine r_iadd X dL_law_520 ?_
  refine r_ildx X HX dL_law_521 (fun v70 => ?_)
  refine r_callVI [.int v68, .int v69, .int v70] X mt_L_48 (by decide) h_l2 (by decide) (okX6_put _ _ X.J h_l2) rfl (Nat.le_of_ble_eq_true rfl) dL_law_522 rfl (fun v72 M71 => ?_)
  refine r_icmp_eq 1380 X dL_law_525 (by decide) ?_ ?_
  · exact r_to [(0, .ref b), (1, rf x.2.1 l1), (2, rf x.2.1 l2), (3, .int l3)] [0, 1, 2, 3] rfl (sL_law_1380 X hL HX Hr HH h_l1 h_l2)
  · refine r_iconst (v := 0) X dL_law_528 (by decide) ?_
    exact r_iret Hr rfl dL_law_529
set_option maxRecDepth 100000 in
noncomputable def cL_8 (xs : Nat → Int32) (L : Nat) (l1 l2 : Nat) (l3 : Int32) (M : Mm) : Option ((Nat × Nat × Nat × Int32 × Mm) ⊕ Int32 × Mm) := ldS xs L (l3 + 1) fun v73 => cal (fX5_fault l1 v73 M) fun v75 M74 => ldS xs L (l3 + 1) fun v76 => cal (fX6_fault l2 v76 M74) fun v78 M77 => if v75 = v78 then bL_law_1380 xs L l1 l2 l3 M77 else some (.inr (0, M77))
set_option maxRecDepth 100000 in
set_option maxHeartbeats 4000000 in
theorem tL_8 {x : SB} {b L : Nat} {xs : Nat → Int32} {F : ((Nat × Nat × Nat × Int32 × Mm) ⊕ Int32 × Mm) → Prop} (X : CX x cL_law RL 10) (hL : x.2.2.2.1 = 4) (HX : XS x b L xs) (Hr : RTI x cL_law .boolean F Sum.inr) (HH : ∀ q, F (.inl q) → pL_law x b q) {l1 l2 : Nat} {l3 : Int32} {M : Mm} (h_l1 : sh l1 = 15) (h_l2 : sh l2 = 16) : SIM x F (cL_8 xs L l1 l2 l3 M) 530 [(0, .ref b), (1, rf x.2.1 l1), (2, rf x.2.1 l2), (3, .int l3)] [] M := by
  unfold cL_8
  refine r_aload_n X dL_law_530 rfl 1 rfl ?_
  refine r_aload_n X dL_law_531 rfl 0 rfl ?_
  refine r_iload_n X dL_law_532 rfl 3 rfl ?_
  refine r_iconst (v := 1) X dL_law_533 (by decide) ?_
  refine r_iadd X dL_law_534 ?_
  refine r_ildx X HX dL_law_535 (fun v73 => ?_)
  refine r_callVI [.int v73] X mt_L_49 (by decide) h_l1 (by decide) (okX5_fault _ _ X.J h_l1) rfl (Nat.le_of_ble_eq_true rfl) dL_law_536 rfl (fun v75 M74 => ?_)
  refine r_aload_n X dL_law_539 rfl 2 rfl ?_
  refine r_aload_n X dL_law_540 rfl 0 rfl ?_
  refine r_iload_n X dL_law_541 rfl 3 rfl ?_
  refine r_iconst (v := 1) X dL_law_542 (by decide) ?_
  refine r_iadd X dL_law_543 ?_
  refine r_ildx X HX dL_law_544 (fun v76 => ?_)
  refine r_callVI [.int v76] X mt_L_52 (by decide) h_l2 (by decide) (okX6_fault _ _ X.J h_l2) rfl (Nat.le_of_ble_eq_true rfl) dL_law_545 rfl (fun v78 M77 => ?_)
  refine r_icmp_eq 1380 X dL_law_548 (by decide) ?_ ?_
  · exact r_to [(0, .ref b), (1, rf x.2.1 l1), (2, rf x.2.1 l2), (3, .int l3)] [0, 1, 2, 3] rfl (sL_law_1380 X hL HX Hr HH h_l1 h_l2)
  · refine r_iconst (v := 0) X dL_law_551 (by decide) ?_
    exact r_iret Hr rfl dL_law_552
set_option maxRecDepth 100000 in
noncomputable def cL_9 (xs : Nat → Int32) (L : Nat) (l1 l2 : Nat) (l3 : Int32) (M : Mm) : Option ((Nat × Nat × Nat × Int32 × Mm) ⊕ Int32 × Mm) := ldS xs L (l3 + 1) fun v79 => cal (fX5_wood l1 v79 M) fun v81 M80 => ldS xs L (l3 + 1) fun v82 => cal (fX6_wood l2 v82 M80) fun v84 M83 => if v81 = v84 then bL_law_1380 xs L l1 l2 l3 M83 else some (.inr (0, M83))
set_option maxRecDepth 100000 in
set_option maxHeartbeats 4000000 in
theorem tL_9 {x : SB} {b L : Nat} {xs : Nat → Int32} {F : ((Nat × Nat × Nat × Int32 × Mm) ⊕ Int32 × Mm) → Prop} (X : CX x cL_law RL 10) (hL : x.2.2.2.1 = 4) (HX : XS x b L xs) (Hr : RTI x cL_law .boolean F Sum.inr) (HH : ∀ q, F (.inl q) → pL_law x b q) {l1 l2 : Nat} {l3 : Int32} {M : Mm} (h_l1 : sh l1 = 15) (h_l2 : sh l2 = 16) : SIM x F (cL_9 xs L l1 l2 l3 M) 553 [(0, .ref b), (1, rf x.2.1 l1), (2, rf x.2.1 l2), (3, .int l3)] [] M := by
  unfold cL_9
  refine r_aload_n X dL_law_553 rfl 1 rfl ?_
  refine r_aload_n X dL_law_554 rfl 0 rfl ?_
  refine r_iload_n X dL_law_555 rfl 3 rfl ?_
  refine r_iconst (v := 1) X dL_law_556 (by decide) ?_
  refine r_iadd X dL_law_557 ?_
  refine r_ildx X HX dL_law_558 (fun v79 => ?_)
  refine r_callVI [.int v79] X mt_L_53 (by decide) h_l1 (by decide) (okX5_wood _ _ X.J h_l1) rfl (Nat.le_of_ble_eq_true rfl) dL_law_559 rfl (fun v81 M80 => ?_)
  refine r_aload_n X dL_law_562 rfl 2 rfl ?_
  refine r_aload_n X dL_law_563 rfl 0 rfl ?_
  refine r_iload_n X dL_law_564 rfl 3 rfl ?_
  refine r_iconst (v := 1) X dL_law_565 (by decide) ?_
  refine r_iadd X dL_law_566 ?_
  refine r_ildx X HX dL_law_567 (fun v82 => ?_)
  refine r_callVI [.int v82] X mt_L_56 (by decide) h_l2 (by decide) (okX6_wood _ _ X.J h_l2) rfl (Nat.le_of_ble_eq_true rfl) dL_law_568 rfl (fun v84 M83 => ?_)
  refine r_icmp_eq 1380 X dL_law_571 (by decide) ?_ ?_
  · exact r_to [(0, .ref b), (1, rf x.2.1 l1), (2, rf x.2.1 l2), (3, .int l3)] [0, 1, 2, 3] rfl (sL_law_1380 X hL HX Hr HH h_l1 h_l2)
  · refine r_iconst (v := 0) X dL_law_574 (by decide) ?_
    exact r_iret Hr rfl dL_law_575
set_option maxRecDepth 100000 in
noncomputable def cL_10 (xs : Nat → Int32) (L : Nat) (l1 l2 : Nat) (l3 : Int32) (M : Mm) : Option ((Nat × Nat × Nat × Int32 × Mm) ⊕ Int32 × Mm) := ldS xs L (l3 + 1) fun v85 => ldS xs L (l3 + 2) fun v86 => cal (fX5_place l1 v85 v86 M) fun v88 M87 => ldS xs L (l3 + 1) fun v89 => ldS xs L (l3 + 2) fun v90 => cal (fX6_place l2 v89 v90 M87) fun v92 M91 => if v88 = v92 then bL_law_1380 xs L l1 l2 l3 M91 else some (.inr (0, M91))
set_option maxRecDepth 100000 in
set_option maxHeartbeats 4000000 in
theorem tL_10 {x : SB} {b L : Nat} {xs : Nat → Int32} {F : ((Nat × Nat × Nat × Int32 × Mm) ⊕ Int32 × Mm) → Prop} (X : CX x cL_law RL 10) (hL : x.2.2.2.1 = 4) (HX : XS x b L xs) (Hr : RTI x cL_law .boolean F Sum.inr) (HH : ∀ q, F (.inl q) → pL_law x b q) {l1 l2 : Nat} {l3 : Int32} {M : Mm} (h_l1 : sh l1 = 15) (h_l2 : sh l2 = 16) : SIM x F (cL_10 xs L l1 l2 l3 M) 576 [(0, .ref b), (1, rf x.2.1 l1), (2, rf x.2.1 l2), (3, .int l3)] [] M := by
  unfold cL_10
  refine r_aload_n X dL_law_576 rfl 1 rfl ?_
  refine r_aload_n X dL_law_577 rfl 0 rfl ?_
  refine r_iload_n X dL_law_578 rfl 3 rfl ?_
  refine r_iconst (v := 1) X dL_law_579 (by decide) ?_
  refine r_iadd X dL_law_580 ?_
  refine r_ildx X HX dL_law_581 (fun v85 => ?_)
  refine r_aload_n X dL_law_582 rfl 0 rfl ?_
  refine r_iload_n X dL_law_583 rfl 3 rfl ?_
  refine r_iconst (v := 2) X dL_law_584 (by decide) ?_
  refine r_iadd X dL_law_585 ?_
  refine r_ildx X HX dL_law_586 (fun v86 => ?_)
  refine r_callVI [.int v85, .int v86] X mt_L_57 (by decide) h_l1 (by decide) (okX5_place _ _ X.J h_l1) rfl (Nat.le_of_ble_eq_true rfl) dL_law_587 rfl (fun v88 M87 => ?_)
  refine r_aload_n X dL_law_590 rfl 2 rfl ?_
  refine r_aload_n X dL_law_591 rfl 0 rfl ?_
  refine r_iload_n X dL_law_592 rfl 3 rfl ?_
  refine r_iconst (v := 1) X dL_law_593 (by decide) ?_
  refine r_iadd X dL_law_594 ?_
  refine r_ildx X HX dL_law_595 (fun v89 => ?_)
  refine r_aload_n X dL_law_596 rfl 0 rfl ?_
  refine r_iload_n X dL_law_597 rfl 3 rfl ?_
  refine r_iconst (v := 2) X dL_law_598 (by decide) ?_
  refine r_iadd X dL_law_599 ?_
  refine r_ildx X HX dL_law_600 (fun v90 => ?_)
  refine r_callVI [.int v89, .int v90] X mt_L_60 (by decide) h_l2 (by decide) (okX6_place _ _ X.J h_l2) rfl (Nat.le_of_ble_eq_true rfl) dL_law_601 rfl (fun v92 M91 => ?_)
  refine r_icmp_eq 1380 X dL_law_604 (by decide) ?_ ?_
  · exact r_to [(0, .ref b), (1, rf x.2.1 l1), (2, rf x.2.1 l2), (3, .int l3)] [0, 1, 2, 3] rfl (sL_law_1380 X hL HX Hr HH h_l1 h_l2)
  · refine r_iconst (v := 0) X dL_law_607 (by decide) ?_
    exact r_iret Hr rfl dL_law_608
set_option maxRecDepth 100000 in
noncomputable def cL_11 (xs : Nat → Int32) (L : Nat) (l1 l2 : Nat) (l3 : Int32) (M : Mm) : Option ((Nat × Nat × Nat × Int32 × Mm) ⊕ Int32 × Mm) := ldS xs L (l3 + 1) fun v93 => ldS xs L (l3 + 2) fun v94 => cal (fX5_mark l1 v93 v94 M) fun v96 M95 => ldS xs L (l3 + 1) fun v97 => ldS xs L (l3 + 2) fun v98 => cal (fX6_mark l2 v97 v98 M95) fun v100 M99 => if v96 = v100 then bL_law_1380 xs L l1 l2 l3 M99 else some (.inr (0, M99))
set_option maxRecDepth 100000 in
set_option maxHeartbeats 4000000 in
theorem tL_11 {x : SB} {b L : Nat} {xs : Nat → Int32} {F : ((Nat × Nat × Nat × Int32 × Mm) ⊕ Int32 × Mm) → Prop} (X : CX x cL_law RL 10) (hL : x.2.2.2.1 = 4) (HX : XS x b L xs) (Hr : RTI x cL_law .boolean F Sum.inr) (HH : ∀ q, F (.inl q) → pL_law x b q) {l1 l2 : Nat} {l3 : Int32} {M : Mm} (h_l1 : sh l1 = 15) (h_l2 : sh l2 = 16) : SIM x F (cL_11 xs L l1 l2 l3 M) 609 [(0, .ref b), (1, rf x.2.1 l1), (2, rf x.2.1 l2), (3, .int l3)] [] M := by
  unfold cL_11
  refine r_aload_n X dL_law_609 rfl 1 rfl ?_
  refine r_aload_n X dL_law_610 rfl 0 rfl ?_
  refine r_iload_n X dL_law_611 rfl 3 rfl ?_
  refine r_iconst (v := 1) X dL_law_612 (by decide) ?_
  refine r_iadd X dL_law_613 ?_
  refine r_ildx X HX dL_law_614 (fun v93 => ?_)
  refine r_aload_n X dL_law_615 rfl 0 rfl ?_
  refine r_iload_n X dL_law_616 rfl 3 rfl ?_
  refine r_iconst (v := 2) X dL_law_617 (by decide) ?_
  refine r_iadd X dL_law_618 ?_
  refine r_ildx X HX dL_law_619 (fun v94 => ?_)
  refine r_callVI [.int v93, .int v94] X mt_L_61 (by decide) h_l1 (by decide) (okX5_mark _ _ X.J h_l1) rfl (Nat.le_of_ble_eq_true rfl) dL_law_620 rfl (fun v96 M95 => ?_)
  refine r_aload_n X dL_law_623 rfl 2 rfl ?_
  refine r_aload_n X dL_law_624 rfl 0 rfl ?_
  refine r_iload_n X dL_law_625 rfl 3 rfl ?_
  refine r_iconst (v := 1) X dL_law_626 (by decide) ?_
  refine r_iadd X dL_law_627 ?_
  refine r_ildx X HX dL_law_628 (fun v97 => ?_)
  refine r_aload_n X dL_law_629 rfl 0 rfl ?_
  refine r_iload_n X dL_law_630 rfl 3 rfl ?_
  refine r_iconst (v := 2) X dL_law_631 (by decide) ?_
  refine r_iadd X dL_law_632 ?_
  refine r_ildx X HX dL_law_633 (fun v98 => ?_)
  refine r_callVI [.int v97, .int v98] X mt_L_64 (by decide) h_l2 (by decide) (okX6_mark _ _ X.J h_l2) rfl (Nat.le_of_ble_eq_true rfl) dL_law_634 rfl (fun v100 M99 => ?_)
  refine r_icmp_eq 1380 X dL_law_637 (by decide) ?_ ?_
  · exact r_to [(0, .ref b), (1, rf x.2.1 l1), (2, rf x.2.1 l2), (3, .int l3)] [0, 1, 2, 3] rfl (sL_law_1380 X hL HX Hr HH h_l1 h_l2)
  · refine r_iconst (v := 0) X dL_law_640 (by decide) ?_
    exact r_iret Hr rfl dL_law_641
set_option maxRecDepth 100000 in
noncomputable def cL_12 (xs : Nat → Int32) (L : Nat) (l1 l2 : Nat) (l3 : Int32) (M : Mm) : Option ((Nat × Nat × Nat × Int32 × Mm) ⊕ Int32 × Mm) := ldS xs L (l3 + 1) fun v101 => ldS xs L (l3 + 2) fun v102 => ldS xs L (l3 + 3) fun v103 => cal (fX5_path l1 v101 v102 v103 M) fun v105 M104 => ldS xs L (l3 + 1) fun v106 => ldS xs L (l3 + 2) fun v107 => ldS xs L (l3 + 3) fun v108 => cal (fX6_path l2 v106 v107 v108 M104) fun v110 M109 => if v105 = v110 then bL_law_1380 xs L l1 l2 l3 M109 else some (.inr (0, M109))
set_option maxRecDepth 100000 in
set_option maxHeartbeats 4000000 in
theorem tL_12 {x : SB} {b L : Nat} {xs : Nat → Int32} {F : ((Nat × Nat × Nat × Int32 × Mm) ⊕ Int32 × Mm) → Prop} (X : CX x cL_law RL 10) (hL : x.2.2.2.1 = 4) (HX : XS x b L xs) (Hr : RTI x cL_law .boolean F Sum.inr) (HH : ∀ q, F (.inl q) → pL_law x b q) {l1 l2 : Nat} {l3 : Int32} {M : Mm} (h_l1 : sh l1 = 15) (h_l2 : sh l2 = 16) : SIM x F (cL_12 xs L l1 l2 l3 M) 642 [(0, .ref b), (1, rf x.2.1 l1), (2, rf x.2.1 l2), (3, .int l3)] [] M := by
  unfold cL_12
  refine r_aload_n X dL_law_642 rfl 1 rfl ?_
  refine r_aload_n X dL_law_643 rfl 0 rfl ?_
  refine r_iload_n X dL_law_644 rfl 3 rfl ?_
  refine r_iconst (v := 1) X dL_law_645 (by decide) ?_
  refine r_iadd X dL_law_646 ?_
  refine r_ildx X HX dL_law_647 (fun v101 => ?_)
  refine r_aload_n X dL_law_648 rfl 0 rfl ?_
  refine r_iload_n X dL_law_649 rfl 3 rfl ?_
  refine r_iconst (v := 2) X dL_law_650 (by decide) ?_
  refine r_iadd X dL_law_651 ?_
  refine r_ildx X HX dL_law_652 (fun v102 => ?_)
  refine r_aload_n X dL_law_653 rfl 0 rfl ?_
  refine r_iload_n X dL_law_654 rfl 3 rfl ?_
  refine r_iconst (v := 3) X dL_law_655 (by decide) ?_
  refine r_iadd X dL_law_656 ?_
  refine r_ildx X HX dL_law_657 (fun v103 => ?_)
  refine r_callVI [.int v101, .int v102, .int v103] X mt_L_65 (by decide) h_l1 (by decide) (okX5_path _ _ X.J h_l1) rfl (Nat.le_of_ble_eq_true rfl) dL_law_658 rfl (fun v105 M104 => ?_)
  refine r_aload_n X dL_law_661 rfl 2 rfl ?_
  refine r_aload_n X dL_law_662 rfl 0 rfl ?_
  refine r_iload_n X dL_law_663 rfl 3 rfl ?_
  refine r_iconst (v := 1) X dL_law_664 (by decide) ?_
  refine r_iadd X dL_law_665 ?_
  refine r_ildx X HX dL_law_666 (fun v106 => ?_)
  refine r_aload_n X dL_law_667 rfl 0 rfl ?_
  refine r_iload_n X dL_law_668 rfl 3 rfl ?_
  refine r_iconst (v := 2) X dL_law_669 (by decide) ?_
  refine r_iadd X dL_law_670 ?_
  refine r_ildx X HX dL_law_671 (fun v107 => ?_)
  refine r_aload_n X dL_law_672 rfl 0 rfl ?_
  refine r_iload_n X dL_law_673 rfl 3 rfl ?_
  refine r_iconst (v := 3) X dL_law_674 (by decide) ?_
  refine r_iadd X dL_law_675 ?_
  refine r_ildx X HX dL_law_676 (fun v108 => ?_)
  refine r_callVI [.int v106, .int v107, .int v108] X mt_L_68 (by decide) h_l2 (by decide) (okX6_path _ _ X.J h_l2) rfl (Nat.le_of_ble_eq_true rfl) dL_law_677 rfl (fun v110 M109 => ?_)
  refine r_icmp_eq 1380 X dL_law_680 (by decide) ?_ ?_
  · exact r_to [(0, .ref b), (1, rf x.2.1 l1), (2, rf x.2.1 l2), (3, .int l3)] [0, 1, 2, 3] rfl (sL_law_1380 X hL HX Hr HH h_l1 h_l2)
  · refine r_iconst (v := 0) X dL_law_683 (by decide) ?_
    exact r_iret Hr rfl dL_law_684
set_option maxRecDepth 100000 in
noncomputable def cL_13 (xs : Nat → Int32) (L : Nat) (l1 l2 : Nat) (l3 : Int32) (M : Mm) : Option ((Nat × Nat × Nat × Int32 × Mm) ⊕ Int32 × Mm) := ldS xs L (l3 + 1) fun v111 => cal (fX5_bird l1 v111 M) fun v113 M112 => ldS xs L (l3 + 1) fun v114 => cal (fX6_bird l2 v114 M112) fun v116 M115 => if v113 = v116 then bL_law_1380 xs L l1 l2 l3 M115 else some (.inr (0, M115))
set_option maxRecDepth 100000 in
set_option maxHeartbeats 4000000 in
theorem tL_13 {x : SB} {b L : Nat} {xs : Nat → Int32} {F : ((Nat × Nat × Nat × Int32 × Mm) ⊕ Int32 × Mm) → Prop} (X : CX x cL_law RL 10) (hL : x.2.2.2.1 = 4) (HX : XS x b L xs) (Hr : RTI x cL_law .boolean F Sum.inr) (HH : ∀ q, F (.inl q) → pL_law x b q) {l1 l2 : Nat} {l3 : Int32} {M : Mm} (h_l1 : sh l1 = 15) (h_l2 : sh l2 = 16) : SIM x F (cL_13 xs L l1 l2 l3 M) 685 [(0, .ref b), (1, rf x.2.1 l1), (2, rf x.2.1 l2), (3, .int l3)] [] M := by
  unfold cL_13
  refine r_aload_n X dL_law_685 rfl 1 rfl ?_
  refine r_aload_n X dL_law_686 rfl 0 rfl ?_
  refine r_iload_n X dL_law_687 rfl 3 rfl ?_
  refine r_iconst (v := 1) X dL_law_688 (by decide) ?_
  refine r_iadd X dL_law_689 ?_
  refine r_ildx X HX dL_law_690 (fun v111 => ?_)
  refine r_callVI [.int v111] X mt_L_69 (by decide) h_l1 (by decide) (okX5_bird _ _ X.J h_l1) rfl (Nat.le_of_ble_eq_true rfl) dL_law_691 rfl (fun v113 M112 => ?_)
  refine r_aload_n X dL_law_694 rfl 2 rfl ?_
  refine r_aload_n X dL_law_695 rfl 0 rfl ?_
  refine r_iload_n X dL_law_696 rfl 3 rfl ?_
  refine r_iconst (v := 1) X dL_law_697 (by decide) ?_
  refine r_iadd X dL_law_698 ?_
  refine r_ildx X HX dL_law_699 (fun v114 => ?_)
  refine r_callVI [.int v114] X mt_L_72 (by decide) h_l2 (by decide) (okX6_bird _ _ X.J h_l2) rfl (Nat.le_of_ble_eq_true rfl) dL_law_700 rfl (fun v116 M115 => ?_)
  refine r_icmp_eq 1380 X dL_law_703 (by decide) ?_ ?_
  · exact r_to [(0, .ref b), (1, rf x.2.1 l1), (2, rf x.2.1 l2), (3, .int l3)] [0, 1, 2, 3] rfl (sL_law_1380 X hL HX Hr HH h_l1 h_l2)
  · refine r_iconst (v := 0) X dL_law_706 (by decide) ?_
    exact r_iret Hr rfl dL_law_707
set_option maxRecDepth 100000 in
noncomputable def cL_14 (xs : Nat → Int32) (L : Nat) (l1 l2 : Nat) (l3 : Int32) (M : Mm) : Option ((Nat × Nat × Nat × Int32 × Mm) ⊕ Int32 × Mm) := ldS xs L (l3 + 1) fun v117 => cal (fX5_pocket l1 v117 M) fun v119 M118 => ldS xs L (l3 + 1) fun v120 => cal (fX6_pocket l2 v120 M118) fun v122 M121 => if v119 = v122 then bL_law_1380 xs L l1 l2 l3 M121 else some (.inr (0, M121))
set_option maxRecDepth 100000 in
set_option maxHeartbeats 4000000 in
theorem tL_14 {x : SB} {b L : Nat} {xs : Nat → Int32} {F : ((Nat × Nat × Nat × Int32 × Mm) ⊕ Int32 × Mm) → Prop} (X : CX x cL_law RL 10) (hL : x.2.2.2.1 = 4) (HX : XS x b L xs) (Hr : RTI x cL_law .boolean F Sum.inr) (HH : ∀ q, F (.inl q) → pL_law x b q) {l1 l2 : Nat} {l3 : Int32} {M : Mm} (h_l1 : sh l1 = 15) (h_l2 : sh l2 = 16) : SIM x F (cL_14 xs L l1 l2 l3 M) 708 [(0, .ref b), (1, rf x.2.1 l1), (2, rf x.2.1 l2), (3, .int l3)] [] M := by
  unfold cL_14
  refine r_aload_n X dL_law_708 rfl 1 rfl ?_
  refine r_aload_n X dL_law_709 rfl 0 rfl ?_
  refine r_iload_n X dL_law_710 rfl 3 rfl ?_
  refine r_iconst (v := 1) X dL_law_711 (by decide) ?_
  refine r_iadd X dL_law_712 ?_
  refine r_ildx X HX dL_law_713 (fun v117 => ?_)
  refine r_callVI [.int v117] X mt_L_73 (by decide) h_l1 (by decide) (okX5_pocket _ _ X.J h_l1) rfl (Nat.le_of_ble_eq_true rfl) dL_law_714 rfl (fun v119 M118 => ?_)
  refine r_aload_n X dL_law_717 rfl 2 rfl ?_
  refine r_aload_n X dL_law_718 rfl 0 rfl ?_
  refine r_iload_n X dL_law_719 rfl 3 rfl ?_
  refine r_iconst (v := 1) X dL_law_720 (by decide) ?_
  refine r_iadd X dL_law_721 ?_
  refine r_ildx X HX dL_law_722 (fun v120 => ?_)
  refine r_callVI [.int v120] X mt_L_76 (by decide) h_l2 (by decide) (okX6_pocket _ _ X.J h_l2) rfl (Nat.le_of_ble_eq_true rfl) dL_law_723 rfl (fun v122 M121 => ?_)
  refine r_icmp_eq 1380 X dL_law_726 (by decide) ?_ ?_
  · exact r_to [(0, .ref b), (1, rf x.2.1 l1), (2, rf x.2.1 l2), (3, .int l3)] [0, 1, 2, 3] rfl (sL_law_1380 X hL HX Hr HH h_l1 h_l2)
  · refine r_iconst (v := 0) X dL_law_729 (by decide) ?_
    exact r_iret Hr rfl dL_law_730
set_option maxRecDepth 100000 in
noncomputable def cL_15 (xs : Nat → Int32) (L : Nat) (l1 l2 : Nat) (l3 : Int32) (M : Mm) : Option ((Nat × Nat × Nat × Int32 × Mm) ⊕ Int32 × Mm) := ldS xs L (l3 + 1) fun v123 => cal (fX5_lead l1 v123 M) fun v125 M124 => ldS xs L (l3 + 1) fun v126 => cal (fX6_lead l2 v126 M124) fun v128 M127 => if v125 = v128 then bL_law_1380 xs L l1 l2 l3 M127 else some (.inr (0, M127))
set_option maxRecDepth 100000 in
set_option maxHeartbeats 4000000 in
theorem tL_15 {x : SB} {b L : Nat} {xs : Nat → Int32} {F : ((Nat × Nat × Nat × Int32 × Mm) ⊕ Int32 × Mm) → Prop} (X : CX x cL_law RL 10) (hL : x.2.2.2.1 = 4) (HX : XS x b L xs) (Hr : RTI x cL_law .boolean F Sum.inr) (HH : ∀ q, F (.inl q) → pL_law x b q) {l1 l2 : Nat} {l3 : Int32} {M : Mm} (h_l1 : sh l1 = 15) (h_l2 : sh l2 = 16) : SIM x F (cL_15 xs L l1 l2 l3 M) 731 [(0, .ref b), (1, rf x.2.1 l1), (2, rf x.2.1 l2), (3, .int l3)] [] M := by
  unfold cL_15
  refine r_aload_n X dL_law_731 rfl 1 rfl ?_
  refine r_aload_n X dL_law_732 rfl 0 rfl ?_
  refine r_iload_n X dL_law_733 rfl 3 rfl ?_
  refine r_iconst (v := 1) X dL_law_734 (by decide) ?_
  refine r_iadd X dL_law_735 ?_
  refine r_ildx X HX dL_law_736 (fun v123 => ?_)
  refine r_callVI [.int v123] X mt_L_77 (by decide) h_l1 (by decide) (okX5_lead _ _ X.J h_l1) rfl (Nat.le_of_ble_eq_true rfl) dL_law_737 rfl (fun v125 M124 => ?_)
  refine r_aload_n X dL_law_740 rfl 2 rfl ?_
  refine r_aload_n X dL_law_741 rfl 0 rfl ?_
  refine r_iload_n X dL_law_742 rfl 3 rfl ?_
  refine r_iconst (v := 1) X dL_law_743 (by decide) ?_
  refine r_iadd X dL_law_744 ?_
  refine r_ildx X HX dL_law_745 (fun v126 => ?_)
  refine r_callVI [.int v126] X mt_L_80 (by decide) h_l2 (by decide) (okX6_lead _ _ X.J h_l2) rfl (Nat.le_of_ble_eq_true rfl) dL_law_746 rfl (fun v128 M127 => ?_)
  refine r_icmp_eq 1380 X dL_law_749 (by decide) ?_ ?_
  · exact r_to [(0, .ref b), (1, rf x.2.1 l1), (2, rf x.2.1 l2), (3, .int l3)] [0, 1, 2, 3] rfl (sL_law_1380 X hL HX Hr HH h_l1 h_l2)
  · refine r_iconst (v := 0) X dL_law_752 (by decide) ?_
    exact r_iret Hr rfl dL_law_753
set_option maxRecDepth 100000 in
noncomputable def cL_16 (xs : Nat → Int32) (L : Nat) (l1 l2 : Nat) (l3 : Int32) (M : Mm) : Option ((Nat × Nat × Nat × Int32 × Mm) ⊕ Int32 × Mm) := ldS xs L (l3 + 1) fun v129 => cal (fX5_drop l1 v129 M) fun v131 M130 => ldS xs L (l3 + 1) fun v132 => cal (fX6_drop l2 v132 M130) fun v134 M133 => if v131 = v134 then bL_law_1380 xs L l1 l2 l3 M133 else some (.inr (0, M133))
set_option maxRecDepth 100000 in
set_option maxHeartbeats 4000000 in
theorem tL_16 {x : SB} {b L : Nat} {xs : Nat → Int32} {F : ((Nat × Nat × Nat × Int32 × Mm) ⊕ Int32 × Mm) → Prop} (X : CX x cL_law RL 10) (hL : x.2.2.2.1 = 4) (HX : XS x b L xs) (Hr : RTI x cL_law .boolean F Sum.inr) (HH : ∀ q, F (.inl q) → pL_law x b q) {l1 l2 : Nat} {l3 : Int32} {M : Mm} (h_l1 : sh l1 = 15) (h_l2 : sh l2 = 16) : SIM x F (cL_16 xs L l1 l2 l3 M) 754 [(0, .ref b), (1, rf x.2.1 l1), (2, rf x.2.1 l2), (3, .int l3)] [] M := by
  unfold cL_16
  refine r_aload_n X dL_law_754 rfl 1 rfl ?_
  refine r_aload_n X dL_law_755 rfl 0 rfl ?_
  refine r_iload_n X dL_law_756 rfl 3 rfl ?_
  refine r_iconst (v := 1) X dL_law_757 (by decide) ?_
  refine r_iadd X dL_law_758 ?_
  refine r_ildx X HX dL_law_759 (fun v129 => ?_)
  refine r_callVI [.int v129] X mt_L_81 (by decide) h_l1 (by decide) (okX5_drop _ _ X.J h_l1) rfl (Nat.le_of_ble_eq_true rfl) dL_law_760 rfl (fun v131 M130 => ?_)
  refine r_aload_n X dL_law_763 rfl 2 rfl ?_
  refine r_aload_n X dL_law_764 rfl 0 rfl ?_
  refine r_iload_n X dL_law_765 rfl 3 rfl ?_
  refine r_iconst (v := 1) X dL_law_766 (by decide) ?_
  refine r_iadd X dL_law_767 ?_
  refine r_ildx X HX dL_law_768 (fun v132 => ?_)
  refine r_callVI [.int v132] X mt_L_84 (by decide) h_l2 (by decide) (okX6_drop _ _ X.J h_l2) rfl (Nat.le_of_ble_eq_true rfl) dL_law_769 rfl (fun v134 M133 => ?_)
  refine r_icmp_eq 1380 X dL_law_772 (by decide) ?_ ?_
  · exact r_to [(0, .ref b), (1, rf x.2.1 l1), (2, rf x.2.1 l2), (3, .int l3)] [0, 1, 2, 3] rfl (sL_law_1380 X hL HX Hr HH h_l1 h_l2)
  · refine r_iconst (v := 0) X dL_law_775 (by decide) ?_
    exact r_iret Hr rfl dL_law_776
set_option maxRecDepth 100000 in
noncomputable def cL_17 (xs : Nat → Int32) (L : Nat) (l1 l2 : Nat) (l3 : Int32) (M : Mm) : Option ((Nat × Nat × Nat × Int32 × Mm) ⊕ Int32 × Mm) := ldS xs L (l3 + 1) fun v135 => ldS xs L (l3 + 2) fun v136 => cal (fX5_fool l1 v135 v136 M) fun v138 M137 => ldS xs L (l3 + 1) fun v139 => ldS xs L (l3 + 2) fun v140 => cal (fX6_fool l2 v139 v140 M137) fun v142 M141 => if v138 = v142 then bL_law_1380 xs L l1 l2 l3 M141 else some (.inr (0, M141))
set_option maxRecDepth 100000 in
set_option maxHeartbeats 4000000 in
theorem tL_17 {x : SB} {b L : Nat} {xs : Nat → Int32} {F : ((Nat × Nat × Nat × Int32 × Mm) ⊕ Int32 × Mm) → Prop} (X : CX x cL_law RL 10) (hL : x.2.2.2.1 = 4) (HX : XS x b L xs) (Hr : RTI x cL_law .boolean F Sum.inr) (HH : ∀ q, F (.inl q) → pL_law x b q) {l1 l2 : Nat} {l3 : Int32} {M : Mm} (h_l1 : sh l1 = 15) (h_l2 : sh l2 = 16) : SIM x F (cL_17 xs L l1 l2 l3 M) 777 [(0, .ref b), (1, rf x.2.1 l1), (2, rf x.2.1 l2), (3, .int l3)] [] M := by
  unfold cL_17
  refine r_aload_n X dL_law_777 rfl 1 rfl ?_
  refine r_aload_n X dL_law_778 rfl 0 rfl ?_
  refine r_iload_n X dL_law_779 rfl 3 rfl ?_
  refine r_iconst (v := 1) X dL_law_780 (by decide) ?_
  refine r_iadd X dL_law_781 ?_
  refine r_ildx X HX dL_law_782 (fun v135 => ?_)
  refine r_aload_n X dL_law_783 rfl 0 rfl ?_
  refine r_iload_n X dL_law_784 rfl 3 rfl ?_
  refine r_iconst (v := 2) X dL_law_785 (by decide) ?_
  refine r_iadd X dL_law_786 ?_
  refine r_ildx X HX dL_law_787 (fun v136 => ?_)
  refine r_callVI [.int v135, .int v136] X mt_L_85 (by decide) h_l1 (by decide) (okX5_fool _ _ X.J h_l1) rfl (Nat.le_of_ble_eq_true rfl) dL_law_788 rfl (fun v138 M137 => ?_)
  refine r_aload_n X dL_law_791 rfl 2 rfl ?_
  refine r_aload_n X dL_law_792 rfl 0 rfl ?_
  refine r_iload_n X dL_law_793 rfl 3 rfl ?_
  refine r_iconst (v := 1) X dL_law_794 (by decide) ?_
  refine r_iadd X dL_law_795 ?_
  refine r_ildx X HX dL_law_796 (fun v139 => ?_)
  refine r_aload_n X dL_law_797 rfl 0 rfl ?_
  refine r_iload_n X dL_law_798 rfl 3 rfl ?_
  refine r_iconst (v := 2) X dL_law_799 (by decide) ?_
  refine r_iadd X dL_law_800 ?_
  refine r_ildx X HX dL_law_801 (fun v140 => ?_)
  refine r_callVI [.int v139, .int v140] X mt_L_88 (by decide) h_l2 (by decide) (okX6_fool _ _ X.J h_l2) rfl (Nat.le_of_ble_eq_true rfl) dL_law_802 rfl (fun v142 M141 => ?_)
  refine r_icmp_eq 1380 X dL_law_805 (by decide) ?_ ?_
  · exact r_to [(0, .ref b), (1, rf x.2.1 l1), (2, rf x.2.1 l2), (3, .int l3)] [0, 1, 2, 3] rfl (sL_law_1380 X hL HX Hr HH h_l1 h_l2)
  · refine r_iconst (v := 0) X dL_law_808 (by decide) ?_
    exact r_iret Hr rfl dL_law_809
set_option maxRecDepth 100000 in
noncomputable def cL_18 (xs : Nat → Int32) (L : Nat) (l1 l2 : Nat) (l3 : Int32) (M : Mm) : Option ((Nat × Nat × Nat × Int32 × Mm) ⊕ Int32 × Mm) := ldS xs L (l3 + 1) fun v143 => ldS xs L (l3 + 2) fun v144 => cal (fX5_take l1 v143 v144 M) fun v146 M145 => ldS xs L (l3 + 1) fun v147 => ldS xs L (l3 + 2) fun v148 => cal (fX6_take l2 v147 v148 M145) fun v150 M149 => if v146 = v150 then bL_law_1380 xs L l1 l2 l3 M149 else some (.inr (0, M149))
set_option maxRecDepth 100000 in
set_option maxHeartbeats 4000000 in
theorem tL_18 {x : SB} {b L : Nat} {xs : Nat → Int32} {F : ((Nat × Nat × Nat × Int32 × Mm) ⊕ Int32 × Mm) → Prop} (X : CX x cL_law RL 10) (hL : x.2.2.2.1 = 4) (HX : XS x b L xs) (Hr : RTI x cL_law .boolean F Sum.inr) (HH : ∀ q, F (.inl q) → pL_law x b q) {l1 l2 : Nat} {l3 : Int32} {M : Mm} (h_l1 : sh l1 = 15) (h_l2 : sh l2 = 16) : SIM x F (cL_18 xs L l1 l2 l3 M) 810 [(0, .ref b), (1, rf x.2.1 l1), (2, rf x.2.1 l2), (3, .int l3)] [] M := by
  unfold cL_18
  refine r_aload_n X dL_law_810 rfl 1 rfl ?_
  refine r_aload_n X dL_law_811 rfl 0 rfl ?_
  refine r_iload_n X dL_law_812 rfl 3 rfl ?_
  refine r_iconst (v := 1) X dL_law_813 (by decide) ?_
  refine r_iadd X dL_law_814 ?_
  refine r_ildx X HX dL_law_815 (fun v143 => ?_)
  refine r_aload_n X dL_law_816 rfl 0 rfl ?_
  refine r_iload_n X dL_law_817 rfl 3 rfl ?_
  refine r_iconst (v := 2) X dL_law_818 (by decide) ?_
  refine r_iadd X dL_law_819 ?_
  refine r_ildx X HX dL_law_820 (fun v144 => ?_)
  refine r_callVI [.int v143, .int v144] X mt_L_89 (by decide) h_l1 (by decide) (okX5_take _ _ X.J h_l1) rfl (Nat.le_of_ble_eq_true rfl) dL_law_821 rfl (fun v146 M145 => ?_)
  refine r_aload_n X dL_law_824 rfl 2 rfl ?_
  refine r_aload_n X dL_law_825 rfl 0 rfl ?_
  refine r_iload_n X dL_law_826 rfl 3 rfl ?_
  refine r_iconst (v := 1) X dL_law_827 (by decide) ?_
  refine r_iadd X dL_law_828 ?_
  refine r_ildx X HX dL_law_829 (fun v147 => ?_)
  refine r_aload_n X dL_law_830 rfl 0 rfl ?_
  refine r_iload_n X dL_law_831 rfl 3 rfl ?_
  refine r_iconst (v := 2) X dL_law_832 (by decide) ?_
  refine r_iadd X dL_law_833 ?_
  refine r_ildx X HX dL_law_834 (fun v148 => ?_)
  refine r_callVI [.int v147, .int v148] X mt_L_92 (by decide) h_l2 (by decide) (okX6_take _ _ X.J h_l2) rfl (Nat.le_of_ble_eq_true rfl) dL_law_835 rfl (fun v150 M149 => ?_)
  refine r_icmp_eq 1380 X dL_law_838 (by decide) ?_ ?_
  · exact r_to [(0, .ref b), (1, rf x.2.1 l1), (2, rf x.2.1 l2), (3, .int l3)] [0, 1, 2, 3] rfl (sL_law_1380 X hL HX Hr HH h_l1 h_l2)
  · refine r_iconst (v := 0) X dL_law_841 (by decide) ?_
    exact r_iret Hr rfl dL_law_842
set_option maxRecDepth 100000 in
noncomputable def cL_19 (xs : Nat → Int32) (L : Nat) (l1 l2 : Nat) (l3 : Int32) (M : Mm) : Option ((Nat × Nat × Nat × Int32 × Mm) ⊕ Int32 × Mm) := ldS xs L (l3 + 1) fun v151 => cal (fX5_hours l1 v151 M) fun v153 M152 => ldS xs L (l3 + 1) fun v154 => cal (fX6_hours l2 v154 M152) fun v156 M155 => if v153 = v156 then bL_law_1380 xs L l1 l2 l3 M155 else some (.inr (0, M155))
set_option maxRecDepth 100000 in
set_option maxHeartbeats 4000000 in
theorem tL_19 {x : SB} {b L : Nat} {xs : Nat → Int32} {F : ((Nat × Nat × Nat × Int32 × Mm) ⊕ Int32 × Mm) → Prop} (X : CX x cL_law RL 10) (hL : x.2.2.2.1 = 4) (HX : XS x b L xs) (Hr : RTI x cL_law .boolean F Sum.inr) (HH : ∀ q, F (.inl q) → pL_law x b q) {l1 l2 : Nat} {l3 : Int32} {M : Mm} (h_l1 : sh l1 = 15) (h_l2 : sh l2 = 16) : SIM x F (cL_19 xs L l1 l2 l3 M) 843 [(0, .ref b), (1, rf x.2.1 l1), (2, rf x.2.1 l2), (3, .int l3)] [] M := by
  unfold cL_19
  refine r_aload_n X dL_law_843 rfl 1 rfl ?_
  refine r_aload_n X dL_law_844 rfl 0 rfl ?_
  refine r_iload_n X dL_law_845 rfl 3 rfl ?_
  refine r_iconst (v := 1) X dL_law_846 (by decide) ?_
  refine r_iadd X dL_law_847 ?_
  refine r_ildx X HX dL_law_848 (fun v151 => ?_)
  refine r_callVI [.int v151] X mt_L_93 (by decide) h_l1 (by decide) (okX5_hours _ _ X.J h_l1) rfl (Nat.le_of_ble_eq_true rfl) dL_law_849 rfl (fun v153 M152 => ?_)
  refine r_aload_n X dL_law_852 rfl 2 rfl ?_
  refine r_aload_n X dL_law_853 rfl 0 rfl ?_
  refine r_iload_n X dL_law_854 rfl 3 rfl ?_
  refine r_iconst (v := 1) X dL_law_855 (by decide) ?_
  refine r_iadd X dL_law_856 ?_
  refine r_ildx X HX dL_law_857 (fun v154 => ?_)
  refine r_callVI [.int v154] X mt_L_96 (by decide) h_l2 (by decide) (okX6_hours _ _ X.J h_l2) rfl (Nat.le_of_ble_eq_true rfl) dL_law_858 rfl (fun v156 M155 => ?_)
  refine r_icmp_eq 1380 X dL_law_861 (by decide) ?_ ?_
  · exact r_to [(0, .ref b), (1, rf x.2.1 l1), (2, rf x.2.1 l2), (3, .int l3)] [0, 1, 2, 3] rfl (sL_law_1380 X hL HX Hr HH h_l1 h_l2)
  · refine r_iconst (v := 0) X dL_law_864 (by decide) ?_
    exact r_iret Hr rfl dL_law_865
set_option maxRecDepth 100000 in
noncomputable def cL_20 (xs : Nat → Int32) (L : Nat) (l1 l2 : Nat) (l3 : Int32) (M : Mm) : Option ((Nat × Nat × Nat × Int32 × Mm) ⊕ Int32 × Mm) := cal (fX5_here l1 M) fun v158 M157 => cal (fX6_here l2 M157) fun v160 M159 => if v158 = v160 then bL_law_1380 xs L l1 l2 l3 M159 else some (.inr (0, M159))
set_option maxRecDepth 100000 in
set_option maxHeartbeats 4000000 in
theorem tL_20 {x : SB} {b L : Nat} {xs : Nat → Int32} {F : ((Nat × Nat × Nat × Int32 × Mm) ⊕ Int32 × Mm) → Prop} (X : CX x cL_law RL 10) (hL : x.2.2.2.1 = 4) (HX : XS x b L xs) (Hr : RTI x cL_law .boolean F Sum.inr) (HH : ∀ q, F (.inl q) → pL_law x b q) {l1 l2 : Nat} {l3 : Int32} {M : Mm} (h_l1 : sh l1 = 15) (h_l2 : sh l2 = 16) : SIM x F (cL_20 xs L l1 l2 l3 M) 866 [(0, .ref b), (1, rf x.2.1 l1), (2, rf x.2.1 l2), (3, .int l3)] [] M := by
  unfold cL_20
  refine r_aload_n X dL_law_866 rfl 1 rfl ?_
  refine r_callVI [] X mt_L_97 (by decide) h_l1 (by decide) (okX5_here _ _ X.J h_l1) rfl (Nat.le_of_ble_eq_true rfl) dL_law_867 rfl (fun v158 M157 => ?_)
  refine r_aload_n X dL_law_870 rfl 2 rfl ?_
  refine r_callVI [] X mt_L_101 (by decide) h_l2 (by decide) (okX6_here _ _ X.J h_l2) rfl (Nat.le_of_ble_eq_true rfl) dL_law_871 rfl (fun v160 M159 => ?_)
  refine r_icmp_eq 1380 X dL_law_874 (by decide) ?_ ?_
  · exact r_to [(0, .ref b), (1, rf x.2.1 l1), (2, rf x.2.1 l2), (3, .int l3)] [0, 1, 2, 3] rfl (sL_law_1380 X hL HX Hr HH h_l1 h_l2)
  · refine r_iconst (v := 0) X dL_law_877 (by decide) ?_
    exact r_iret Hr rfl dL_law_878
set_option maxRecDepth 100000 in
noncomputable def cL_21 (xs : Nat → Int32) (L : Nat) (l1 l2 : Nat) (l3 : Int32) (M : Mm) : Option ((Nat × Nat × Nat × Int32 × Mm) ⊕ Int32 × Mm) := ldS xs L (l3 + 1) fun v161 => cal (fX5_led l1 v161 M) fun v163 M162 => ldS xs L (l3 + 1) fun v164 => cal (fX6_led l2 v164 M162) fun v166 M165 => if v163 = v166 then bL_law_1380 xs L l1 l2 l3 M165 else some (.inr (0, M165))
set_option maxRecDepth 100000 in
set_option maxHeartbeats 4000000 in
theorem tL_21 {x : SB} {b L : Nat} {xs : Nat → Int32} {F : ((Nat × Nat × Nat × Int32 × Mm) ⊕ Int32 × Mm) → Prop} (X : CX x cL_law RL 10) (hL : x.2.2.2.1 = 4) (HX : XS x b L xs) (Hr : RTI x cL_law .boolean F Sum.inr) (HH : ∀ q, F (.inl q) → pL_law x b q) {l1 l2 : Nat} {l3 : Int32} {M : Mm} (h_l1 : sh l1 = 15) (h_l2 : sh l2 = 16) : SIM x F (cL_21 xs L l1 l2 l3 M) 879 [(0, .ref b), (1, rf x.2.1 l1), (2, rf x.2.1 l2), (3, .int l3)] [] M := by
  unfold cL_21
  refine r_aload_n X dL_law_879 rfl 1 rfl ?_
  refine r_aload_n X dL_law_880 rfl 0 rfl ?_
  refine r_iload_n X dL_law_881 rfl 3 rfl ?_
  refine r_iconst (v := 1) X dL_law_882 (by decide) ?_
  refine r_iadd X dL_law_883 ?_
  refine r_ildx X HX dL_law_884 (fun v161 => ?_)
  refine r_callVI [.int v161] X mt_L_102 (by decide) h_l1 (by decide) (okX5_led _ _ X.J h_l1) rfl (Nat.le_of_ble_eq_true rfl) dL_law_885 rfl (fun v163 M162 => ?_)
  refine r_aload_n X dL_law_888 rfl 2 rfl ?_
  refine r_aload_n X dL_law_889 rfl 0 rfl ?_
  refine r_iload_n X dL_law_890 rfl 3 rfl ?_
  refine r_iconst (v := 1) X dL_law_891 (by decide) ?_
  refine r_iadd X dL_law_892 ?_
  refine r_ildx X HX dL_law_893 (fun v164 => ?_)
  refine r_callVI [.int v164] X mt_L_105 (by decide) h_l2 (by decide) (okX6_led _ _ X.J h_l2) rfl (Nat.le_of_ble_eq_true rfl) dL_law_894 rfl (fun v166 M165 => ?_)
  refine r_icmp_eq 1380 X dL_law_897 (by decide) ?_ ?_
  · exact r_to [(0, .ref b), (1, rf x.2.1 l1), (2, rf x.2.1 l2), (3, .int l3)] [0, 1, 2, 3] rfl (sL_law_1380 X hL HX Hr HH h_l1 h_l2)
  · refine r_iconst (v := 0) X dL_law_900 (by decide) ?_
    exact r_iret Hr rfl dL_law_901
set_option maxRecDepth 100000 in
noncomputable def cL_22 (xs : Nat → Int32) (L : Nat) (l1 l2 : Nat) (l3 : Int32) (M : Mm) : Option ((Nat × Nat × Nat × Int32 × Mm) ⊕ Int32 × Mm) := ldS xs L (l3 + 1) fun v167 => cal (fX5_keep l1 v167 M) fun v169 M168 => ldS xs L (l3 + 1) fun v170 => cal (fX6_keep l2 v170 M168) fun v172 M171 => if v169 = v172 then bL_law_1380 xs L l1 l2 l3 M171 else some (.inr (0, M171))
set_option maxRecDepth 100000 in
set_option maxHeartbeats 4000000 in
theorem tL_22 {x : SB} {b L : Nat} {xs : Nat → Int32} {F : ((Nat × Nat × Nat × Int32 × Mm) ⊕ Int32 × Mm) → Prop} (X : CX x cL_law RL 10) (hL : x.2.2.2.1 = 4) (HX : XS x b L xs) (Hr : RTI x cL_law .boolean F Sum.inr) (HH : ∀ q, F (.inl q) → pL_law x b q) {l1 l2 : Nat} {l3 : Int32} {M : Mm} (h_l1 : sh l1 = 15) (h_l2 : sh l2 = 16) : SIM x F (cL_22 xs L l1 l2 l3 M) 902 [(0, .ref b), (1, rf x.2.1 l1), (2, rf x.2.1 l2), (3, .int l3)] [] M := by
  unfold cL_22
  refine r_aload_n X dL_law_902 rfl 1 rfl ?_
  refine r_aload_n X dL_law_903 rfl 0 rfl ?_
  refine r_iload_n X dL_law_904 rfl 3 rfl ?_
  refine r_iconst (v := 1) X dL_law_905 (by decide) ?_
  refine r_iadd X dL_law_906 ?_
  refine r_ildx X HX dL_law_907 (fun v167 => ?_)
  refine r_callVI [.int v167] X mt_L_106 (by decide) h_l1 (by decide) (okX5_keep _ _ X.J h_l1) rfl (Nat.le_of_ble_eq_true rfl) dL_law_908 rfl (fun v169 M168 => ?_)
  refine r_aload_n X dL_law_911 rfl 2 rfl ?_
  refine r_aload_n X dL_law_912 rfl 0 rfl ?_
  refine r_iload_n X dL_law_913 rfl 3 rfl ?_
  refine r_iconst (v := 1) X dL_law_914 (by decide) ?_
  refine r_iadd X dL_law_915 ?_
  refine r_ildx X HX dL_law_916 (fun v170 => ?_)
  refine r_callVI [.int v170] X mt_L_109 (by decide) h_l2 (by decide) (okX6_keep _ _ X.J h_l2) rfl (Nat.le_of_ble_eq_true rfl) dL_law_917 rfl (fun v172 M171 => ?_)
  refine r_icmp_eq 1380 X dL_law_920 (by decide) ?_ ?_
  · exact r_to [(0, .ref b), (1, rf x.2.1 l1), (2, rf x.2.1 l2), (3, .int l3)] [0, 1, 2, 3] rfl (sL_law_1380 X hL HX Hr HH h_l1 h_l2)
  · refine r_iconst (v := 0) X dL_law_923 (by decide) ?_
    exact r_iret Hr rfl dL_law_924
set_option maxRecDepth 100000 in
noncomputable def cL_23 (xs : Nat → Int32) (L : Nat) (l1 l2 : Nat) (l3 : Int32) (M : Mm) : Option ((Nat × Nat × Nat × Int32 × Mm) ⊕ Int32 × Mm) := ldS xs L (l3 + 1) fun v173 => cal (fX5_on l1 v173 M) fun v175 M174 => ldS xs L (l3 + 1) fun v176 => cal (fX6_on l2 v176 M174) fun v178 M177 => if v175 = v178 then bL_law_1380 xs L l1 l2 l3 M177 else some (.inr (0, M177))
set_option maxRecDepth 100000 in
set_option maxHeartbeats 4000000 in
theorem tL_23 {x : SB} {b L : Nat} {xs : Nat → Int32} {F : ((Nat × Nat × Nat × Int32 × Mm) ⊕ Int32 × Mm) → Prop} (X : CX x cL_law RL 10) (hL : x.2.2.2.1 = 4) (HX : XS x b L xs) (Hr : RTI x cL_law .boolean F Sum.inr) (HH : ∀ q, F (.inl q) → pL_law x b q) {l1 l2 : Nat} {l3 : Int32} {M : Mm} (h_l1 : sh l1 = 15) (h_l2 : sh l2 = 16) : SIM x F (cL_23 xs L l1 l2 l3 M) 925 [(0, .ref b), (1, rf x.2.1 l1), (2, rf x.2.1 l2), (3, .int l3)] [] M := by
  unfold cL_23
  refine r_aload_n X dL_law_925 rfl 1 rfl ?_
  refine r_aload_n X dL_law_926 rfl 0 rfl ?_
  refine r_iload_n X dL_law_927 rfl 3 rfl ?_
  refine r_iconst (v := 1) X dL_law_928 (by decide) ?_
  refine r_iadd X dL_law_929 ?_
  refine r_ildx X HX dL_law_930 (fun v173 => ?_)
  refine r_callVI [.int v173] X mt_L_110 (by decide) h_l1 (by decide) (okX5_on _ _ X.J h_l1) rfl (Nat.le_of_ble_eq_true rfl) dL_law_931 rfl (fun v175 M174 => ?_)
  refine r_aload_n X dL_law_934 rfl 2 rfl ?_
  refine r_aload_n X dL_law_935 rfl 0 rfl ?_
  refine r_iload_n X dL_law_936 rfl 3 rfl ?_
  refine r_iconst (v := 1) X dL_law_937 (by decide) ?_
  refine r_iadd X dL_law_938 ?_
  refine r_ildx X HX dL_law_939 (fun v176 => ?_)
  refine r_callVI [.int v176] X mt_L_113 (by decide) h_l2 (by decide) (okX6_on _ _ X.J h_l2) rfl (Nat.le_of_ble_eq_true rfl) dL_law_940 rfl (fun v178 M177 => ?_)
  refine r_icmp_eq 1380 X dL_law_943 (by decide) ?_ ?_
  · exact r_to [(0, .ref b), (1, rf x.2.1 l1), (2, rf x.2.1 l2), (3, .int l3)] [0, 1, 2, 3] rfl (sL_law_1380 X hL HX Hr HH h_l1 h_l2)
  · refine r_iconst (v := 0) X dL_law_946 (by decide) ?_
    exact r_iret Hr rfl dL_law_947
set_option maxRecDepth 100000 in
noncomputable def cL_24 (xs : Nat → Int32) (L : Nat) (l1 l2 : Nat) (l3 : Int32) (M : Mm) : Option ((Nat × Nat × Nat × Int32 × Mm) ⊕ Int32 × Mm) := cal (fX5_home l1 M) fun v180 M179 => cal (fX6_home l2 M179) fun v182 M181 => if v180 = v182 then bL_law_1380 xs L l1 l2 l3 M181 else some (.inr (0, M181))
set_option maxRecDepth 100000 in
set_option maxHeartbeats 4000000 in
theorem tL_24 {x : SB} {b L : Nat} {xs : Nat → Int32} {F : ((Nat × Nat × Nat × Int32 × Mm) ⊕ Int32 × Mm) → Prop} (X : CX x cL_law RL 10) (hL : x.2.2.2.1 = 4) (HX : XS x b L xs) (Hr : RTI x cL_law .boolean F Sum.inr) (HH : ∀ q, F (.inl q) → pL_law x b q) {l1 l2 : Nat} {l3 : Int32} {M : Mm} (h_l1 : sh l1 = 15) (h_l2 : sh l2 = 16) : SIM x F (cL_24 xs L l1 l2 l3 M) 948 [(0, .ref b), (1, rf x.2.1 l1), (2, rf x.2.1 l2), (3, .int l3)] [] M := by
  unfold cL_24
  refine r_aload_n X dL_law_948 rfl 1 rfl ?_
  refine r_callVI [] X mt_L_114 (by decide) h_l1 (by decide) (okX5_home _ _ X.J h_l1) rfl (Nat.le_of_ble_eq_true rfl) dL_law_949 rfl (fun v180 M179 => ?_)
  refine r_aload_n X dL_law_952 rfl 2 rfl ?_
  refine r_callVI [] X mt_L_117 (by decide) h_l2 (by decide) (okX6_home _ _ X.J h_l2) rfl (Nat.le_of_ble_eq_true rfl) dL_law_953 rfl (fun v182 M181 => ?_)
  refine r_icmp_eq 1380 X dL_law_956 (by decide) ?_ ?_
  · exact r_to [(0, .ref b), (1, rf x.2.1 l1), (2, rf x.2.1 l2), (3, .int l3)] [0, 1, 2, 3] rfl (sL_law_1380 X hL HX Hr HH h_l1 h_l2)
  · refine r_iconst (v := 0) X dL_law_959 (by decide) ?_
    exact r_iret Hr rfl dL_law_960
set_option maxRecDepth 100000 in
noncomputable def cL_25 (xs : Nat → Int32) (L : Nat) (l1 l2 : Nat) (l3 : Int32) (M : Mm) : Option ((Nat × Nat × Nat × Int32 × Mm) ⊕ Int32 × Mm) := ldS xs L (l3 + 1) fun v183 => cal (fX5_back l1 v183 M) fun v185 M184 => ldS xs L (l3 + 1) fun v186 => cal (fX6_back l2 v186 M184) fun v188 M187 => if v185 = v188 then bL_law_1380 xs L l1 l2 l3 M187 else some (.inr (0, M187))
set_option maxRecDepth 100000 in
set_option maxHeartbeats 4000000 in
theorem tL_25 {x : SB} {b L : Nat} {xs : Nat → Int32} {F : ((Nat × Nat × Nat × Int32 × Mm) ⊕ Int32 × Mm) → Prop} (X : CX x cL_law RL 10) (hL : x.2.2.2.1 = 4) (HX : XS x b L xs) (Hr : RTI x cL_law .boolean F Sum.inr) (HH : ∀ q, F (.inl q) → pL_law x b q) {l1 l2 : Nat} {l3 : Int32} {M : Mm} (h_l1 : sh l1 = 15) (h_l2 : sh l2 = 16) : SIM x F (cL_25 xs L l1 l2 l3 M) 961 [(0, .ref b), (1, rf x.2.1 l1), (2, rf x.2.1 l2), (3, .int l3)] [] M := by
  unfold cL_25
  refine r_aload_n X dL_law_961 rfl 1 rfl ?_
  refine r_aload_n X dL_law_962 rfl 0 rfl ?_
  refine r_iload_n X dL_law_963 rfl 3 rfl ?_
  refine r_iconst (v := 1) X dL_law_964 (by decide) ?_
  refine r_iadd X dL_law_965 ?_
  refine r_ildx X HX dL_law_966 (fun v183 => ?_)
  refine r_callVI [.int v183] X mt_L_118 (by decide) h_l1 (by decide) (okX5_back _ _ X.J h_l1) rfl (Nat.le_of_ble_eq_true rfl) dL_law_967 rfl (fun v185 M184 => ?_)
  refine r_aload_n X dL_law_970 rfl 2 rfl ?_
  refine r_aload_n X dL_law_971 rfl 0 rfl ?_
  refine r_iload_n X dL_law_972 rfl 3 rfl ?_
  refine r_iconst (v := 1) X dL_law_973 (by decide) ?_
  refine r_iadd X dL_law_974 ?_
  refine r_ildx X HX dL_law_975 (fun v186 => ?_)
  refine r_callVI [.int v186] X mt_L_121 (by decide) h_l2 (by decide) (okX6_back _ _ X.J h_l2) rfl (Nat.le_of_ble_eq_true rfl) dL_law_976 rfl (fun v188 M187 => ?_)
  refine r_icmp_eq 1380 X dL_law_979 (by decide) ?_ ?_
  · exact r_to [(0, .ref b), (1, rf x.2.1 l1), (2, rf x.2.1 l2), (3, .int l3)] [0, 1, 2, 3] rfl (sL_law_1380 X hL HX Hr HH h_l1 h_l2)
  · refine r_iconst (v := 0) X dL_law_982 (by decide) ?_
    exact r_iret Hr rfl dL_law_983
set_option maxRecDepth 100000 in
noncomputable def cL_26 (xs : Nat → Int32) (L : Nat) (l1 l2 : Nat) (l3 : Int32) (M : Mm) : Option ((Nat × Nat × Nat × Int32 × Mm) ⊕ Int32 × Mm) := cal (fX5_wrong l1 M) fun v190 M189 => cal (fX6_wrong l2 M189) fun v192 M191 => if v190 = v192 then bL_law_1380 xs L l1 l2 l3 M191 else some (.inr (0, M191))
set_option maxRecDepth 100000 in
set_option maxHeartbeats 4000000 in
theorem tL_26 {x : SB} {b L : Nat} {xs : Nat → Int32} {F : ((Nat × Nat × Nat × Int32 × Mm) ⊕ Int32 × Mm) → Prop} (X : CX x cL_law RL 10) (hL : x.2.2.2.1 = 4) (HX : XS x b L xs) (Hr : RTI x cL_law .boolean F Sum.inr) (HH : ∀ q, F (.inl q) → pL_law x b q) {l1 l2 : Nat} {l3 : Int32} {M : Mm} (h_l1 : sh l1 = 15) (h_l2 : sh l2 = 16) : SIM x F (cL_26 xs L l1 l2 l3 M) 984 [(0, .ref b), (1, rf x.2.1 l1), (2, rf x.2.1 l2), (3, .int l3)] [] M := by
  unfold cL_26
  refine r_aload_n X dL_law_984 rfl 1 rfl ?_
  refine r_callVI [] X mt_L_122 (by decide) h_l1 (by decide) (okX5_wrong _ _ X.J h_l1) rfl (Nat.le_of_ble_eq_true rfl) dL_law_985 rfl (fun v190 M189 => ?_)
  refine r_aload_n X dL_law_988 rfl 2 rfl ?_
  refine r_callVI [] X mt_L_125 (by decide) h_l2 (by decide) (okX6_wrong _ _ X.J h_l2) rfl (Nat.le_of_ble_eq_true rfl) dL_law_989 rfl (fun v192 M191 => ?_)
  refine r_icmp_eq 1380 X dL_law_992 (by decide) ?_ ?_
  · exact r_to [(0, .ref b), (1, rf x.2.1 l1), (2, rf x.2.1 l2), (3, .int l3)] [0, 1, 2, 3] rfl (sL_law_1380 X hL HX Hr HH h_l1 h_l2)
  · refine r_iconst (v := 0) X dL_law_995 (by decide) ?_
    exact r_iret Hr rfl dL_law_996
set_option maxRecDepth 100000 in
noncomputable def cL_27 (xs : Nat → Int32) (L : Nat) (l1 l2 : Nat) (l3 : Int32) (M : Mm) : Option ((Nat × Nat × Nat × Int32 × Mm) ⊕ Int32 × Mm) := cal (fX5_waits l1 M) fun v194 M193 => cal (fX6_waits l2 M193) fun v196 M195 => if v194 = v196 then bL_law_1380 xs L l1 l2 l3 M195 else some (.inr (0, M195))
set_option maxRecDepth 100000 in
set_option maxHeartbeats 4000000 in
theorem tL_27 {x : SB} {b L : Nat} {xs : Nat → Int32} {F : ((Nat × Nat × Nat × Int32 × Mm) ⊕ Int32 × Mm) → Prop} (X : CX x cL_law RL 10) (hL : x.2.2.2.1 = 4) (HX : XS x b L xs) (Hr : RTI x cL_law .boolean F Sum.inr) (HH : ∀ q, F (.inl q) → pL_law x b q) {l1 l2 : Nat} {l3 : Int32} {M : Mm} (h_l1 : sh l1 = 15) (h_l2 : sh l2 = 16) : SIM x F (cL_27 xs L l1 l2 l3 M) 997 [(0, .ref b), (1, rf x.2.1 l1), (2, rf x.2.1 l2), (3, .int l3)] [] M := by
  unfold cL_27
  refine r_aload_n X dL_law_997 rfl 1 rfl ?_
  refine r_callVI [] X mt_L_126 (by decide) h_l1 (by decide) (okX5_waits _ _ X.J h_l1) rfl (Nat.le_of_ble_eq_true rfl) dL_law_998 rfl (fun v194 M193 => ?_)
  refine r_aload_n X dL_law_1001 rfl 2 rfl ?_
  refine r_callVI [] X mt_L_129 (by decide) h_l2 (by decide) (okX6_waits _ _ X.J h_l2) rfl (Nat.le_of_ble_eq_true rfl) dL_law_1002 rfl (fun v196 M195 => ?_)
  refine r_icmp_eq 1380 X dL_law_1005 (by decide) ?_ ?_
  · exact r_to [(0, .ref b), (1, rf x.2.1 l1), (2, rf x.2.1 l2), (3, .int l3)] [0, 1, 2, 3] rfl (sL_law_1380 X hL HX Hr HH h_l1 h_l2)
  · refine r_iconst (v := 0) X dL_law_1008 (by decide) ?_
    exact r_iret Hr rfl dL_law_1009
set_option maxRecDepth 100000 in
noncomputable def cL_28 (xs : Nat → Int32) (L : Nat) (l1 l2 : Nat) (l3 : Int32) (M : Mm) : Option ((Nat × Nat × Nat × Int32 × Mm) ⊕ Int32 × Mm) := cal (fX5_nearest l1 M) fun v198 M197 => cal (fX6_nearest l2 M197) fun v200 M199 => if v198 = v200 then bL_law_1380 xs L l1 l2 l3 M199 else some (.inr (0, M199))
set_option maxRecDepth 100000 in
set_option maxHeartbeats 4000000 in
theorem tL_28 {x : SB} {b L : Nat} {xs : Nat → Int32} {F : ((Nat × Nat × Nat × Int32 × Mm) ⊕ Int32 × Mm) → Prop} (X : CX x cL_law RL 10) (hL : x.2.2.2.1 = 4) (HX : XS x b L xs) (Hr : RTI x cL_law .boolean F Sum.inr) (HH : ∀ q, F (.inl q) → pL_law x b q) {l1 l2 : Nat} {l3 : Int32} {M : Mm} (h_l1 : sh l1 = 15) (h_l2 : sh l2 = 16) : SIM x F (cL_28 xs L l1 l2 l3 M) 1010 [(0, .ref b), (1, rf x.2.1 l1), (2, rf x.2.1 l2), (3, .int l3)] [] M := by
  unfold cL_28
  refine r_aload_n X dL_law_1010 rfl 1 rfl ?_
  refine r_callVI [] X mt_L_130 (by decide) h_l1 (by decide) (okX5_nearest _ _ X.J h_l1) rfl (Nat.le_of_ble_eq_true rfl) dL_law_1011 rfl (fun v198 M197 => ?_)
  refine r_aload_n X dL_law_1014 rfl 2 rfl ?_
  refine r_callVI [] X mt_L_133 (by decide) h_l2 (by decide) (okX6_nearest _ _ X.J h_l2) rfl (Nat.le_of_ble_eq_true rfl) dL_law_1015 rfl (fun v200 M199 => ?_)
  refine r_icmp_eq 1380 X dL_law_1018 (by decide) ?_ ?_
  · exact r_to [(0, .ref b), (1, rf x.2.1 l1), (2, rf x.2.1 l2), (3, .int l3)] [0, 1, 2, 3] rfl (sL_law_1380 X hL HX Hr HH h_l1 h_l2)
  · refine r_iconst (v := 0) X dL_law_1021 (by decide) ?_
    exact r_iret Hr rfl dL_law_1022
set_option maxRecDepth 100000 in
noncomputable def cL_29 (xs : Nat → Int32) (L : Nat) (l1 l2 : Nat) (l3 : Int32) (M : Mm) : Option ((Nat × Nat × Nat × Int32 × Mm) ⊕ Int32 × Mm) := ldS xs L (l3 + 1) fun v201 => ldS xs L (l3 + 2) fun v202 => cal (fX5_fewest l1 v201 v202 M) fun v204 M203 => ldS xs L (l3 + 1) fun v205 => ldS xs L (l3 + 2) fun v206 => cal (fX6_fewest l2 v205 v206 M203) fun v208 M207 => if v204 = v208 then bL_law_1380 xs L l1 l2 l3 M207 else some (.inr (0, M207))
set_option maxRecDepth 100000 in
set_option maxHeartbeats 4000000 in
theorem tL_29 {x : SB} {b L : Nat} {xs : Nat → Int32} {F : ((Nat × Nat × Nat × Int32 × Mm) ⊕ Int32 × Mm) → Prop} (X : CX x cL_law RL 10) (hL : x.2.2.2.1 = 4) (HX : XS x b L xs) (Hr : RTI x cL_law .boolean F Sum.inr) (HH : ∀ q, F (.inl q) → pL_law x b q) {l1 l2 : Nat} {l3 : Int32} {M : Mm} (h_l1 : sh l1 = 15) (h_l2 : sh l2 = 16) : SIM x F (cL_29 xs L l1 l2 l3 M) 1023 [(0, .ref b), (1, rf x.2.1 l1), (2, rf x.2.1 l2), (3, .int l3)] [] M := by
  unfold cL_29
  refine r_aload_n X dL_law_1023 rfl 1 rfl ?_
  refine r_aload_n X dL_law_1024 rfl 0 rfl ?_
  refine r_iload_n X dL_law_1025 rfl 3 rfl ?_
  refine r_iconst (v := 1) X dL_law_1026 (by decide) ?_
  refine r_iadd X dL_law_1027 ?_
  refine r_ildx X HX dL_law_1028 (fun v201 => ?_)
  refine r_aload_n X dL_law_1029 rfl 0 rfl ?_
  refine r_iload_n X dL_law_1030 rfl 3 rfl ?_
  refine r_iconst (v := 2) X dL_law_1031 (by decide) ?_
  refine r_iadd X dL_law_1032 ?_
  refine r_ildx X HX dL_law_1033 (fun v202 => ?_)
  refine r_callVI [.int v201, .int v202] X mt_L_134 (by decide) h_l1 (by decide) (okX5_fewest _ _ X.J h_l1) rfl (Nat.le_of_ble_eq_true rfl) dL_law_1034 rfl (fun v204 M203 => ?_)
  refine r_aload_n X dL_law_1037 rfl 2 rfl ?_
  refine r_aload_n X dL_law_1038 rfl 0 rfl ?_
  refine r_iload_n X dL_law_1039 rfl 3 rfl ?_
  refine r_iconst (v := 1) X dL_law_1040 (by decide) ?_
  refine r_iadd X dL_law_1041 ?_
  refine r_ildx X HX dL_law_1042 (fun v205 => ?_)
  refine r_aload_n X dL_law_1043 rfl 0 rfl ?_
  refine r_iload_n X dL_law_1044 rfl 3 rfl ?_
  refine r_iconst (v := 2) X dL_law_1045 (by decide) ?_
  refine r_iadd X dL_law_1046 ?_
  refine r_ildx X HX dL_law_1047 (fun v206 => ?_)
  refine r_callVI [.int v205, .int v206] X mt_L_137 (by decide) h_l2 (by decide) (okX6_fewest _ _ X.J h_l2) rfl (Nat.le_of_ble_eq_true rfl) dL_law_1048 rfl (fun v208 M207 => ?_)
  refine r_icmp_eq 1380 X dL_law_1051 (by decide) ?_ ?_
  · exact r_to [(0, .ref b), (1, rf x.2.1 l1), (2, rf x.2.1 l2), (3, .int l3)] [0, 1, 2, 3] rfl (sL_law_1380 X hL HX Hr HH h_l1 h_l2)
  · refine r_iconst (v := 0) X dL_law_1054 (by decide) ?_
    exact r_iret Hr rfl dL_law_1055
set_option maxRecDepth 100000 in
noncomputable def cL_30 (xs : Nat → Int32) (L : Nat) (l1 l2 : Nat) (l3 : Int32) (M : Mm) : Option ((Nat × Nat × Nat × Int32 × Mm) ⊕ Int32 × Mm) := ldS xs L (l3 + 1) fun v209 => ldS xs L (l3 + 2) fun v210 => cal (fX5_surest l1 v209 v210 M) fun v212 M211 => ldS xs L (l3 + 1) fun v213 => ldS xs L (l3 + 2) fun v214 => cal (fX6_surest l2 v213 v214 M211) fun v216 M215 => if v212 = v216 then bL_law_1380 xs L l1 l2 l3 M215 else some (.inr (0, M215))
set_option maxRecDepth 100000 in
set_option maxHeartbeats 4000000 in
theorem tL_30 {x : SB} {b L : Nat} {xs : Nat → Int32} {F : ((Nat × Nat × Nat × Int32 × Mm) ⊕ Int32 × Mm) → Prop} (X : CX x cL_law RL 10) (hL : x.2.2.2.1 = 4) (HX : XS x b L xs) (Hr : RTI x cL_law .boolean F Sum.inr) (HH : ∀ q, F (.inl q) → pL_law x b q) {l1 l2 : Nat} {l3 : Int32} {M : Mm} (h_l1 : sh l1 = 15) (h_l2 : sh l2 = 16) : SIM x F (cL_30 xs L l1 l2 l3 M) 1056 [(0, .ref b), (1, rf x.2.1 l1), (2, rf x.2.1 l2), (3, .int l3)] [] M := by
  unfold cL_30
  refine r_aload_n X dL_law_1056 rfl 1 rfl ?_
  refine r_aload_n X dL_law_1057 rfl 0 rfl ?_
  refine r_iload_n X dL_law_1058 rfl 3 rfl ?_
  refine r_iconst (v := 1) X dL_law_1059 (by decide) ?_
  refine r_iadd X dL_law_1060 ?_
  refine r_ildx X HX dL_law_1061 (fun v209 => ?_)
  refine r_aload_n X dL_law_1062 rfl 0 rfl ?_
  refine r_iload_n X dL_law_1063 rfl 3 rfl ?_
  refine r_iconst (v := 2) X dL_law_1064 (by decide) ?_
  refine r_iadd X dL_law_1065 ?_
  refine r_ildx X HX dL_law_1066 (fun v210 => ?_)
  refine r_callVI [.int v209, .int v210] X mt_L_138 (by decide) h_l1 (by decide) (okX5_surest _ _ X.J h_l1) rfl (Nat.le_of_ble_eq_true rfl) dL_law_1067 rfl (fun v212 M211 => ?_)
  refine r_aload_n X dL_law_1070 rfl 2 rfl ?_
  refine r_aload_n X dL_law_1071 rfl 0 rfl ?_
  refine r_iload_n X dL_law_1072 rfl 3 rfl ?_
  refine r_iconst (v := 1) X dL_law_1073 (by decide) ?_
  refine r_iadd X dL_law_1074 ?_
  refine r_ildx X HX dL_law_1075 (fun v213 => ?_)
  refine r_aload_n X dL_law_1076 rfl 0 rfl ?_
  refine r_iload_n X dL_law_1077 rfl 3 rfl ?_
  refine r_iconst (v := 2) X dL_law_1078 (by decide) ?_
  refine r_iadd X dL_law_1079 ?_
  refine r_ildx X HX dL_law_1080 (fun v214 => ?_)
  refine r_callVI [.int v213, .int v214] X mt_L_141 (by decide) h_l2 (by decide) (okX6_surest _ _ X.J h_l2) rfl (Nat.le_of_ble_eq_true rfl) dL_law_1081 rfl (fun v216 M215 => ?_)
  refine r_icmp_eq 1380 X dL_law_1084 (by decide) ?_ ?_
  · exact r_to [(0, .ref b), (1, rf x.2.1 l1), (2, rf x.2.1 l2), (3, .int l3)] [0, 1, 2, 3] rfl (sL_law_1380 X hL HX Hr HH h_l1 h_l2)
  · refine r_iconst (v := 0) X dL_law_1087 (by decide) ?_
    exact r_iret Hr rfl dL_law_1088
set_option maxRecDepth 100000 in
noncomputable def cL_31 (xs : Nat → Int32) (L : Nat) (l1 l2 : Nat) (l3 : Int32) (M : Mm) : Option ((Nat × Nat × Nat × Int32 × Mm) ⊕ Int32 × Mm) := cal (fX5_astray l1 M) fun v218 M217 => cal (fX6_astray l2 M217) fun v220 M219 => if v218 = v220 then bL_law_1380 xs L l1 l2 l3 M219 else some (.inr (0, M219))
set_option maxRecDepth 100000 in
set_option maxHeartbeats 4000000 in
theorem tL_31 {x : SB} {b L : Nat} {xs : Nat → Int32} {F : ((Nat × Nat × Nat × Int32 × Mm) ⊕ Int32 × Mm) → Prop} (X : CX x cL_law RL 10) (hL : x.2.2.2.1 = 4) (HX : XS x b L xs) (Hr : RTI x cL_law .boolean F Sum.inr) (HH : ∀ q, F (.inl q) → pL_law x b q) {l1 l2 : Nat} {l3 : Int32} {M : Mm} (h_l1 : sh l1 = 15) (h_l2 : sh l2 = 16) : SIM x F (cL_31 xs L l1 l2 l3 M) 1089 [(0, .ref b), (1, rf x.2.1 l1), (2, rf x.2.1 l2), (3, .int l3)] [] M := by
  unfold cL_31
  refine r_aload_n X dL_law_1089 rfl 1 rfl ?_
  refine r_callVI [] X mt_L_142 (by decide) h_l1 (by decide) (okX5_astray _ _ X.J h_l1) rfl (Nat.le_of_ble_eq_true rfl) dL_law_1090 rfl (fun v218 M217 => ?_)
  refine r_aload_n X dL_law_1093 rfl 2 rfl ?_
  refine r_callVI [] X mt_L_145 (by decide) h_l2 (by decide) (okX6_astray _ _ X.J h_l2) rfl (Nat.le_of_ble_eq_true rfl) dL_law_1094 rfl (fun v220 M219 => ?_)
  refine r_icmp_eq 1380 X dL_law_1097 (by decide) ?_ ?_
  · exact r_to [(0, .ref b), (1, rf x.2.1 l1), (2, rf x.2.1 l2), (3, .int l3)] [0, 1, 2, 3] rfl (sL_law_1380 X hL HX Hr HH h_l1 h_l2)
  · refine r_iconst (v := 0) X dL_law_1100 (by decide) ?_
    exact r_iret Hr rfl dL_law_1101
set_option maxRecDepth 100000 in
noncomputable def cL_32 (xs : Nat → Int32) (L : Nat) (l1 l2 : Nat) (l3 : Int32) (M : Mm) : Option ((Nat × Nat × Nat × Int32 × Mm) ⊕ Int32 × Mm) := cal (fX5_helps l1 M) fun v222 M221 => cal (fX6_helps l2 M221) fun v224 M223 => if v222 = v224 then bL_law_1380 xs L l1 l2 l3 M223 else some (.inr (0, M223))
set_option maxRecDepth 100000 in
set_option maxHeartbeats 4000000 in
theorem tL_32 {x : SB} {b L : Nat} {xs : Nat → Int32} {F : ((Nat × Nat × Nat × Int32 × Mm) ⊕ Int32 × Mm) → Prop} (X : CX x cL_law RL 10) (hL : x.2.2.2.1 = 4) (HX : XS x b L xs) (Hr : RTI x cL_law .boolean F Sum.inr) (HH : ∀ q, F (.inl q) → pL_law x b q) {l1 l2 : Nat} {l3 : Int32} {M : Mm} (h_l1 : sh l1 = 15) (h_l2 : sh l2 = 16) : SIM x F (cL_32 xs L l1 l2 l3 M) 1102 [(0, .ref b), (1, rf x.2.1 l1), (2, rf x.2.1 l2), (3, .int l3)] [] M := by
  unfold cL_32
  refine r_aload_n X dL_law_1102 rfl 1 rfl ?_
  refine r_callVI [] X mt_L_146 (by decide) h_l1 (by decide) (okX5_helps _ _ X.J h_l1) rfl (Nat.le_of_ble_eq_true rfl) dL_law_1103 rfl (fun v222 M221 => ?_)
  refine r_aload_n X dL_law_1106 rfl 2 rfl ?_
  refine r_callVI [] X mt_L_149 (by decide) h_l2 (by decide) (okX6_helps _ _ X.J h_l2) rfl (Nat.le_of_ble_eq_true rfl) dL_law_1107 rfl (fun v224 M223 => ?_)
  refine r_icmp_eq 1380 X dL_law_1110 (by decide) ?_ ?_
  · exact r_to [(0, .ref b), (1, rf x.2.1 l1), (2, rf x.2.1 l2), (3, .int l3)] [0, 1, 2, 3] rfl (sL_law_1380 X hL HX Hr HH h_l1 h_l2)
  · refine r_iconst (v := 0) X dL_law_1113 (by decide) ?_
    exact r_iret Hr rfl dL_law_1114
set_option maxRecDepth 100000 in
noncomputable def cL_33 (xs : Nat → Int32) (L : Nat) (l1 l2 : Nat) (l3 : Int32) (M : Mm) : Option ((Nat × Nat × Nat × Int32 × Mm) ⊕ Int32 × Mm) := cal (fX5_odds l1 M) fun v226 M225 => cal (fX6_odds l2 M225) fun v228 M227 => if v226 = v228 then bL_law_1380 xs L l1 l2 l3 M227 else some (.inr (0, M227))
set_option maxRecDepth 100000 in
set_option maxHeartbeats 4000000 in
theorem tL_33 {x : SB} {b L : Nat} {xs : Nat → Int32} {F : ((Nat × Nat × Nat × Int32 × Mm) ⊕ Int32 × Mm) → Prop} (X : CX x cL_law RL 10) (hL : x.2.2.2.1 = 4) (HX : XS x b L xs) (Hr : RTI x cL_law .boolean F Sum.inr) (HH : ∀ q, F (.inl q) → pL_law x b q) {l1 l2 : Nat} {l3 : Int32} {M : Mm} (h_l1 : sh l1 = 15) (h_l2 : sh l2 = 16) : SIM x F (cL_33 xs L l1 l2 l3 M) 1115 [(0, .ref b), (1, rf x.2.1 l1), (2, rf x.2.1 l2), (3, .int l3)] [] M := by
  unfold cL_33
  refine r_aload_n X dL_law_1115 rfl 1 rfl ?_
  refine r_callVI [] X mt_L_150 (by decide) h_l1 (by decide) (okX5_odds _ _ X.J h_l1) rfl (Nat.le_of_ble_eq_true rfl) dL_law_1116 rfl (fun v226 M225 => ?_)
  refine r_aload_n X dL_law_1119 rfl 2 rfl ?_
  refine r_callVI [] X mt_L_153 (by decide) h_l2 (by decide) (okX6_odds _ _ X.J h_l2) rfl (Nat.le_of_ble_eq_true rfl) dL_law_1120 rfl (fun v228 M227 => ?_)
  refine r_icmp_eq 1380 X dL_law_1123 (by decide) ?_ ?_
  · exact r_to [(0, .ref b), (1, rf x.2.1 l1), (2, rf x.2.1 l2), (3, .int l3)] [0, 1, 2, 3] rfl (sL_law_1380 X hL HX Hr HH h_l1 h_l2)
  · refine r_iconst (v := 0) X dL_law_1126 (by decide) ?_
    exact r_iret Hr rfl dL_law_1127
set_option maxRecDepth 100000 in
noncomputable def cL_34 (xs : Nat → Int32) (L : Nat) (l1 l2 : Nat) (l3 : Int32) (M : Mm) : Option ((Nat × Nat × Nat × Int32 × Mm) ⊕ Int32 × Mm) := cal (fX5_best l1 M) fun v230 M229 => cal (fX6_best l2 M229) fun v232 M231 => if v230 = v232 then bL_law_1380 xs L l1 l2 l3 M231 else some (.inr (0, M231))
set_option maxRecDepth 100000 in
set_option maxHeartbeats 4000000 in
theorem tL_34 {x : SB} {b L : Nat} {xs : Nat → Int32} {F : ((Nat × Nat × Nat × Int32 × Mm) ⊕ Int32 × Mm) → Prop} (X : CX x cL_law RL 10) (hL : x.2.2.2.1 = 4) (HX : XS x b L xs) (Hr : RTI x cL_law .boolean F Sum.inr) (HH : ∀ q, F (.inl q) → pL_law x b q) {l1 l2 : Nat} {l3 : Int32} {M : Mm} (h_l1 : sh l1 = 15) (h_l2 : sh l2 = 16) : SIM x F (cL_34 xs L l1 l2 l3 M) 1128 [(0, .ref b), (1, rf x.2.1 l1), (2, rf x.2.1 l2), (3, .int l3)] [] M := by
  unfold cL_34
  refine r_aload_n X dL_law_1128 rfl 1 rfl ?_
  refine r_callVI [] X mt_L_154 (by decide) h_l1 (by decide) (okX5_best _ _ X.J h_l1) rfl (Nat.le_of_ble_eq_true rfl) dL_law_1129 rfl (fun v230 M229 => ?_)
  refine r_aload_n X dL_law_1132 rfl 2 rfl ?_
  refine r_callVI [] X mt_L_157 (by decide) h_l2 (by decide) (okX6_best _ _ X.J h_l2) rfl (Nat.le_of_ble_eq_true rfl) dL_law_1133 rfl (fun v232 M231 => ?_)
  refine r_icmp_eq 1380 X dL_law_1136 (by decide) ?_ ?_
  · exact r_to [(0, .ref b), (1, rf x.2.1 l1), (2, rf x.2.1 l2), (3, .int l3)] [0, 1, 2, 3] rfl (sL_law_1380 X hL HX Hr HH h_l1 h_l2)
  · refine r_iconst (v := 0) X dL_law_1139 (by decide) ?_
    exact r_iret Hr rfl dL_law_1140
set_option maxRecDepth 100000 in
noncomputable def cL_35 (xs : Nat → Int32) (L : Nat) (l1 l2 : Nat) (l3 : Int32) (M : Mm) : Option ((Nat × Nat × Nat × Int32 × Mm) ⊕ Int32 × Mm) := ldS xs L (l3 + 1) fun v233 => cal (fX5_ways l1 v233 M) fun v235 M234 => ldS xs L (l3 + 1) fun v236 => cal (fX6_ways l2 v236 M234) fun v238 M237 => if v235 = v238 then bL_law_1380 xs L l1 l2 l3 M237 else some (.inr (0, M237))
set_option maxRecDepth 100000 in
set_option maxHeartbeats 4000000 in
theorem tL_35 {x : SB} {b L : Nat} {xs : Nat → Int32} {F : ((Nat × Nat × Nat × Int32 × Mm) ⊕ Int32 × Mm) → Prop} (X : CX x cL_law RL 10) (hL : x.2.2.2.1 = 4) (HX : XS x b L xs) (Hr : RTI x cL_law .boolean F Sum.inr) (HH : ∀ q, F (.inl q) → pL_law x b q) {l1 l2 : Nat} {l3 : Int32} {M : Mm} (h_l1 : sh l1 = 15) (h_l2 : sh l2 = 16) : SIM x F (cL_35 xs L l1 l2 l3 M) 1141 [(0, .ref b), (1, rf x.2.1 l1), (2, rf x.2.1 l2), (3, .int l3)] [] M := by
  unfold cL_35
  refine r_aload_n X dL_law_1141 rfl 1 rfl ?_
  refine r_aload_n X dL_law_1142 rfl 0 rfl ?_
  refine r_iload_n X dL_law_1143 rfl 3 rfl ?_
  refine r_iconst (v := 1) X dL_law_1144 (by decide) ?_
  refine r_iadd X dL_law_1145 ?_
  refine r_ildx X HX dL_law_1146 (fun v233 => ?_)
  refine r_callVI [.int v233] X mt_L_158 (by decide) h_l1 (by decide) (okX5_ways _ _ X.J h_l1) rfl (Nat.le_of_ble_eq_true rfl) dL_law_1147 rfl (fun v235 M234 => ?_)
  refine r_aload_n X dL_law_1150 rfl 2 rfl ?_
  refine r_aload_n X dL_law_1151 rfl 0 rfl ?_
  refine r_iload_n X dL_law_1152 rfl 3 rfl ?_
  refine r_iconst (v := 1) X dL_law_1153 (by decide) ?_
  refine r_iadd X dL_law_1154 ?_
  refine r_ildx X HX dL_law_1155 (fun v236 => ?_)
  refine r_callVI [.int v236] X mt_L_161 (by decide) h_l2 (by decide) (okX6_ways _ _ X.J h_l2) rfl (Nat.le_of_ble_eq_true rfl) dL_law_1156 rfl (fun v238 M237 => ?_)
  refine r_icmp_eq 1380 X dL_law_1159 (by decide) ?_ ?_
  · exact r_to [(0, .ref b), (1, rf x.2.1 l1), (2, rf x.2.1 l2), (3, .int l3)] [0, 1, 2, 3] rfl (sL_law_1380 X hL HX Hr HH h_l1 h_l2)
  · refine r_iconst (v := 0) X dL_law_1162 (by decide) ?_
    exact r_iret Hr rfl dL_law_1163
set_option maxRecDepth 100000 in
noncomputable def cL_36 (xs : Nat → Int32) (L : Nat) (l1 l2 : Nat) (l3 : Int32) (M : Mm) : Option ((Nat × Nat × Nat × Int32 × Mm) ⊕ Int32 × Mm) := ldS xs L (l3 + 1) fun v239 => cal (fX5_sure l1 v239 M) fun v241 M240 => ldS xs L (l3 + 1) fun v242 => cal (fX6_sure l2 v242 M240) fun v244 M243 => if v241 = v244 then bL_law_1380 xs L l1 l2 l3 M243 else some (.inr (0, M243))
set_option maxRecDepth 100000 in
set_option maxHeartbeats 4000000 in
theorem tL_36 {x : SB} {b L : Nat} {xs : Nat → Int32} {F : ((Nat × Nat × Nat × Int32 × Mm) ⊕ Int32 × Mm) → Prop} (X : CX x cL_law RL 10) (hL : x.2.2.2.1 = 4) (HX : XS x b L xs) (Hr : RTI x cL_law .boolean F Sum.inr) (HH : ∀ q, F (.inl q) → pL_law x b q) {l1 l2 : Nat} {l3 : Int32} {M : Mm} (h_l1 : sh l1 = 15) (h_l2 : sh l2 = 16) : SIM x F (cL_36 xs L l1 l2 l3 M) 1164 [(0, .ref b), (1, rf x.2.1 l1), (2, rf x.2.1 l2), (3, .int l3)] [] M := by
  unfold cL_36
  refine r_aload_n X dL_law_1164 rfl 1 rfl ?_
  refine r_aload_n X dL_law_1165 rfl 0 rfl ?_
  refine r_iload_n X dL_law_1166 rfl 3 rfl ?_
  refine r_iconst (v := 1) X dL_law_1167 (by decide) ?_
  refine r_iadd X dL_law_1168 ?_
  refine r_ildx X HX dL_law_1169 (fun v239 => ?_)
  refine r_callVI [.int v239] X mt_L_162 (by decide) h_l1 (by decide) (okX5_sure _ _ X.J h_l1) rfl (Nat.le_of_ble_eq_true rfl) dL_law_1170 rfl (fun v241 M240 => ?_)
  refine r_aload_n X dL_law_1173 rfl 2 rfl ?_
  refine r_aload_n X dL_law_1174 rfl 0 rfl ?_
  refine r_iload_n X dL_law_1175 rfl 3 rfl ?_
  refine r_iconst (v := 1) X dL_law_1176 (by decide) ?_
  refine r_iadd X dL_law_1177 ?_
  refine r_ildx X HX dL_law_1178 (fun v242 => ?_)
  refine r_callVI [.int v242] X mt_L_165 (by decide) h_l2 (by decide) (okX6_sure _ _ X.J h_l2) rfl (Nat.le_of_ble_eq_true rfl) dL_law_1179 rfl (fun v244 M243 => ?_)
  refine r_icmp_eq 1380 X dL_law_1182 (by decide) ?_ ?_
  · exact r_to [(0, .ref b), (1, rf x.2.1 l1), (2, rf x.2.1 l2), (3, .int l3)] [0, 1, 2, 3] rfl (sL_law_1380 X hL HX Hr HH h_l1 h_l2)
  · refine r_iconst (v := 0) X dL_law_1185 (by decide) ?_
    exact r_iret Hr rfl dL_law_1186
set_option maxRecDepth 100000 in
noncomputable def cL_37 (xs : Nat → Int32) (L : Nat) (l1 l2 : Nat) (l3 : Int32) (M : Mm) : Option ((Nat × Nat × Nat × Int32 × Mm) ⊕ Int32 × Mm) := ldS xs L (l3 + 1) fun v245 => ldS xs L (l3 + 2) fun v246 => cal (fX5_was l1 v245 v246 M) fun v248 M247 => ldS xs L (l3 + 1) fun v249 => ldS xs L (l3 + 2) fun v250 => cal (fX6_was l2 v249 v250 M247) fun v252 M251 => if v248 = v252 then bL_law_1380 xs L l1 l2 l3 M251 else some (.inr (0, M251))
set_option maxRecDepth 100000 in
set_option maxHeartbeats 4000000 in
theorem tL_37 {x : SB} {b L : Nat} {xs : Nat → Int32} {F : ((Nat × Nat × Nat × Int32 × Mm) ⊕ Int32 × Mm) → Prop} (X : CX x cL_law RL 10) (hL : x.2.2.2.1 = 4) (HX : XS x b L xs) (Hr : RTI x cL_law .boolean F Sum.inr) (HH : ∀ q, F (.inl q) → pL_law x b q) {l1 l2 : Nat} {l3 : Int32} {M : Mm} (h_l1 : sh l1 = 15) (h_l2 : sh l2 = 16) : SIM x F (cL_37 xs L l1 l2 l3 M) 1187 [(0, .ref b), (1, rf x.2.1 l1), (2, rf x.2.1 l2), (3, .int l3)] [] M := by
  unfold cL_37
  refine r_aload_n X dL_law_1187 rfl 1 rfl ?_
  refine r_aload_n X dL_law_1188 rfl 0 rfl ?_
  refine r_iload_n X dL_law_1189 rfl 3 rfl ?_
  refine r_iconst (v := 1) X dL_law_1190 (by decide) ?_
  refine r_iadd X dL_law_1191 ?_
  refine r_ildx X HX dL_law_1192 (fun v245 => ?_)
  refine r_aload_n X dL_law_1193 rfl 0 rfl ?_
  refine r_iload_n X dL_law_1194 rfl 3 rfl ?_
  refine r_iconst (v := 2) X dL_law_1195 (by decide) ?_
  refine r_iadd X dL_law_1196 ?_
  refine r_ildx X HX dL_law_1197 (fun v246 => ?_)
  refine r_callVI [.int v245, .int v246] X mt_L_166 (by decide) h_l1 (by decide) (okX5_was _ _ X.J h_l1) rfl (Nat.le_of_ble_eq_true rfl) dL_law_1198 rfl (fun v248 M247 => ?_)
  refine r_aload_n X dL_law_1201 rfl 2 rfl ?_
  refine r_aload_n X dL_law_1202 rfl 0 rfl ?_
  refine r_iload_n X dL_law_1203 rfl 3 rfl ?_
  refine r_iconst (v := 1) X dL_law_1204 (by decide) ?_
  refine r_iadd X dL_law_1205 ?_
  refine r_ildx X HX dL_law_1206 (fun v249 => ?_)
  refine r_aload_n X dL_law_1207 rfl 0 rfl ?_
  refine r_iload_n X dL_law_1208 rfl 3 rfl ?_
  refine r_iconst (v := 2) X dL_law_1209 (by decide) ?_
  refine r_iadd X dL_law_1210 ?_
  refine r_ildx X HX dL_law_1211 (fun v250 => ?_)
  refine r_callVI [.int v249, .int v250] X mt_L_169 (by decide) h_l2 (by decide) (okX6_was _ _ X.J h_l2) rfl (Nat.le_of_ble_eq_true rfl) dL_law_1212 rfl (fun v252 M251 => ?_)
  refine r_icmp_eq 1380 X dL_law_1215 (by decide) ?_ ?_
  · exact r_to [(0, .ref b), (1, rf x.2.1 l1), (2, rf x.2.1 l2), (3, .int l3)] [0, 1, 2, 3] rfl (sL_law_1380 X hL HX Hr HH h_l1 h_l2)
  · refine r_iconst (v := 0) X dL_law_1218 (by decide) ?_
    exact r_iret Hr rfl dL_law_1219
set_option maxRecDepth 100000 in
noncomputable def cL_38 (xs : Nat → Int32) (L : Nat) (l1 l2 : Nat) (l3 : Int32) (M : Mm) : Option ((Nat × Nat × Nat × Int32 × Mm) ⊕ Int32 × Mm) := cal (fX5_bare l1 M) fun v254 M253 => cal (fX6_bare l2 M253) fun v256 M255 => if v254 = v256 then bL_law_1380 xs L l1 l2 l3 M255 else some (.inr (0, M255))
set_option maxRecDepth 100000 in
set_option maxHeartbeats 4000000 in
theorem tL_38 {x : SB} {b L : Nat} {xs : Nat → Int32} {F : ((Nat × Nat × Nat × Int32 × Mm) ⊕ Int32 × Mm) → Prop} (X : CX x cL_law RL 10) (hL : x.2.2.2.1 = 4) (HX : XS x b L xs) (Hr : RTI x cL_law .boolean F Sum.inr) (HH : ∀ q, F (.inl q) → pL_law x b q) {l1 l2 : Nat} {l3 : Int32} {M : Mm} (h_l1 : sh l1 = 15) (h_l2 : sh l2 = 16) : SIM x F (cL_38 xs L l1 l2 l3 M) 1220 [(0, .ref b), (1, rf x.2.1 l1), (2, rf x.2.1 l2), (3, .int l3)] [] M := by
  unfold cL_38
  refine r_aload_n X dL_law_1220 rfl 1 rfl ?_
  refine r_callVI [] X mt_L_170 (by decide) h_l1 (by decide) (okX5_bare _ _ X.J h_l1) rfl (Nat.le_of_ble_eq_true rfl) dL_law_1221 rfl (fun v254 M253 => ?_)
  refine r_aload_n X dL_law_1224 rfl 2 rfl ?_
  refine r_callVI [] X mt_L_173 (by decide) h_l2 (by decide) (okX6_bare _ _ X.J h_l2) rfl (Nat.le_of_ble_eq_true rfl) dL_law_1225 rfl (fun v256 M255 => ?_)
  refine r_icmp_eq 1380 X dL_law_1228 (by decide) ?_ ?_
  · exact r_to [(0, .ref b), (1, rf x.2.1 l1), (2, rf x.2.1 l2), (3, .int l3)] [0, 1, 2, 3] rfl (sL_law_1380 X hL HX Hr HH h_l1 h_l2)
  · refine r_iconst (v := 0) X dL_law_1231 (by decide) ?_
    exact r_iret Hr rfl dL_law_1232
set_option maxRecDepth 100000 in
noncomputable def cL_39 (xs : Nat → Int32) (L : Nat) (l1 l2 : Nat) (l3 : Int32) (M : Mm) : Option ((Nat × Nat × Nat × Int32 × Mm) ⊕ Int32 × Mm) := ldS xs L (l3 + 1) fun v257 => ldS xs L (l3 + 2) fun v258 => cal (fX5_lots l1 v257 v258 M) fun v260 M259 => ldS xs L (l3 + 1) fun v261 => ldS xs L (l3 + 2) fun v262 => cal (fX6_lots l2 v261 v262 M259) fun v264 M263 => if v260 = v264 then bL_law_1380 xs L l1 l2 l3 M263 else some (.inr (0, M263))
set_option maxRecDepth 100000 in
set_option maxHeartbeats 4000000 in
theorem tL_39 {x : SB} {b L : Nat} {xs : Nat → Int32} {F : ((Nat × Nat × Nat × Int32 × Mm) ⊕ Int32 × Mm) → Prop} (X : CX x cL_law RL 10) (hL : x.2.2.2.1 = 4) (HX : XS x b L xs) (Hr : RTI x cL_law .boolean F Sum.inr) (HH : ∀ q, F (.inl q) → pL_law x b q) {l1 l2 : Nat} {l3 : Int32} {M : Mm} (h_l1 : sh l1 = 15) (h_l2 : sh l2 = 16) : SIM x F (cL_39 xs L l1 l2 l3 M) 1233 [(0, .ref b), (1, rf x.2.1 l1), (2, rf x.2.1 l2), (3, .int l3)] [] M := by
  unfold cL_39
  refine r_aload_n X dL_law_1233 rfl 1 rfl ?_
  refine r_aload_n X dL_law_1234 rfl 0 rfl ?_
  refine r_iload_n X dL_law_1235 rfl 3 rfl ?_
  refine r_iconst (v := 1) X dL_law_1236 (by decide) ?_
  refine r_iadd X dL_law_1237 ?_
  refine r_ildx X HX dL_law_1238 (fun v257 => ?_)
  refine r_aload_n X dL_law_1239 rfl 0 rfl ?_
  refine r_iload_n X dL_law_1240 rfl 3 rfl ?_
  refine r_iconst (v := 2) X dL_law_1241 (by decide) ?_
  refine r_iadd X dL_law_1242 ?_
  refine r_ildx X HX dL_law_1243 (fun v258 => ?_)
  refine r_callVI [.int v257, .int v258] X mt_L_174 (by decide) h_l1 (by decide) (okX5_lots _ _ X.J h_l1) rfl (Nat.le_of_ble_eq_true rfl) dL_law_1244 rfl (fun v260 M259 => ?_)
  refine r_aload_n X dL_law_1247 rfl 2 rfl ?_
  refine r_aload_n X dL_law_1248 rfl 0 rfl ?_
  refine r_iload_n X dL_law_1249 rfl 3 rfl ?_
  refine r_iconst (v := 1) X dL_law_1250 (by decide) ?_
  refine r_iadd X dL_law_1251 ?_
  refine r_ildx X HX dL_law_1252 (fun v261 => ?_)
  refine r_aload_n X dL_law_1253 rfl 0 rfl ?_
  refine r_iload_n X dL_law_1254 rfl 3 rfl ?_
  refine r_iconst (v := 2) X dL_law_1255 (by decide) ?_
  refine r_iadd X dL_law_1256 ?_
  refine r_ildx X HX dL_law_1257 (fun v262 => ?_)
  refine r_callVI [.int v261, .int v262] X mt_L_177 (by decide) h_l2 (by decide) (okX6_lots _ _ X.J h_l2) rfl (Nat.le_of_ble_eq_true rfl) dL_law_1258 rfl (fun v264 M263 => ?_)
  refine r_icmp_eq 1380 X dL_law_1261 (by decide) ?_ ?_
  · exact r_to [(0, .ref b), (1, rf x.2.1 l1), (2, rf x.2.1 l2), (3, .int l3)] [0, 1, 2, 3] rfl (sL_law_1380 X hL HX Hr HH h_l1 h_l2)
  · refine r_iconst (v := 0) X dL_law_1264 (by decide) ?_
    exact r_iret Hr rfl dL_law_1265
set_option maxRecDepth 100000 in
noncomputable def cL_40 (xs : Nat → Int32) (L : Nat) (l1 l2 : Nat) (l3 : Int32) (M : Mm) : Option ((Nat × Nat × Nat × Int32 × Mm) ⊕ Int32 × Mm) := cal (fX5_asked l1 M) fun v266 M265 => cal (fX6_asked l2 M265) fun v268 M267 => if v266 = v268 then bL_law_1380 xs L l1 l2 l3 M267 else some (.inr (0, M267))
set_option maxRecDepth 100000 in
set_option maxHeartbeats 4000000 in
theorem tL_40 {x : SB} {b L : Nat} {xs : Nat → Int32} {F : ((Nat × Nat × Nat × Int32 × Mm) ⊕ Int32 × Mm) → Prop} (X : CX x cL_law RL 10) (hL : x.2.2.2.1 = 4) (HX : XS x b L xs) (Hr : RTI x cL_law .boolean F Sum.inr) (HH : ∀ q, F (.inl q) → pL_law x b q) {l1 l2 : Nat} {l3 : Int32} {M : Mm} (h_l1 : sh l1 = 15) (h_l2 : sh l2 = 16) : SIM x F (cL_40 xs L l1 l2 l3 M) 1266 [(0, .ref b), (1, rf x.2.1 l1), (2, rf x.2.1 l2), (3, .int l3)] [] M := by
  unfold cL_40
  refine r_aload_n X dL_law_1266 rfl 1 rfl ?_
  refine r_callVI [] X mt_L_178 (by decide) h_l1 (by decide) (okX5_asked _ _ X.J h_l1) rfl (Nat.le_of_ble_eq_true rfl) dL_law_1267 rfl (fun v266 M265 => ?_)
  refine r_aload_n X dL_law_1270 rfl 2 rfl ?_
  refine r_callVI [] X mt_L_181 (by decide) h_l2 (by decide) (okX6_asked _ _ X.J h_l2) rfl (Nat.le_of_ble_eq_true rfl) dL_law_1271 rfl (fun v268 M267 => ?_)
  refine r_icmp_eq 1380 X dL_law_1274 (by decide) ?_ ?_
  · exact r_to [(0, .ref b), (1, rf x.2.1 l1), (2, rf x.2.1 l2), (3, .int l3)] [0, 1, 2, 3] rfl (sL_law_1380 X hL HX Hr HH h_l1 h_l2)
  · refine r_iconst (v := 0) X dL_law_1277 (by decide) ?_
    exact r_iret Hr rfl dL_law_1278
set_option maxRecDepth 100000 in
noncomputable def cL_41 (xs : Nat → Int32) (L : Nat) (l1 l2 : Nat) (l3 : Int32) (M : Mm) : Option ((Nat × Nat × Nat × Int32 × Mm) ⊕ Int32 × Mm) := cal (fX5_upper l1 M) fun v270 M269 => cal (fX6_upper l2 M269) fun v272 M271 => if (lg_cmp v270 v272) = 0 then bL_law_1380 xs L l1 l2 l3 M271 else some (.inr (0, M271))
set_option maxRecDepth 100000 in
set_option maxHeartbeats 4000000 in
theorem tL_41 {x : SB} {b L : Nat} {xs : Nat → Int32} {F : ((Nat × Nat × Nat × Int32 × Mm) ⊕ Int32 × Mm) → Prop} (X : CX x cL_law RL 10) (hL : x.2.2.2.1 = 4) (HX : XS x b L xs) (Hr : RTI x cL_law .boolean F Sum.inr) (HH : ∀ q, F (.inl q) → pL_law x b q) {l1 l2 : Nat} {l3 : Int32} {M : Mm} (h_l1 : sh l1 = 15) (h_l2 : sh l2 = 16) : SIM x F (cL_41 xs L l1 l2 l3 M) 1279 [(0, .ref b), (1, rf x.2.1 l1), (2, rf x.2.1 l2), (3, .int l3)] [] M := by
  unfold cL_41
  refine r_aload_n X dL_law_1279 rfl 1 rfl ?_
  refine r_callVJ [] X mt_L_182 (by decide) h_l1 (by decide) (okX5_upper _ _ X.J h_l1) rfl (Nat.le_of_ble_eq_true rfl) dL_law_1280 rfl (fun v270 M269 => ?_)
  refine r_aload_n X dL_law_1283 rfl 2 rfl ?_
  refine r_callVJ [] X mt_L_186 (by decide) h_l2 (by decide) (okX6_upper _ _ X.J h_l2) rfl (Nat.le_of_ble_eq_true rfl) dL_law_1284 rfl (fun v272 M271 => ?_)
  refine r_lcmp X dL_law_1287 ?_
  refine r_if_eq 1380 X dL_law_1288 (by decide) ?_ ?_
  · exact r_to [(0, .ref b), (1, rf x.2.1 l1), (2, rf x.2.1 l2), (3, .int l3)] [0, 1, 2, 3] rfl (sL_law_1380 X hL HX Hr HH h_l1 h_l2)
  · refine r_iconst (v := 0) X dL_law_1291 (by decide) ?_
    exact r_iret Hr rfl dL_law_1292
set_option maxRecDepth 100000 in
noncomputable def cL_42 (xs : Nat → Int32) (L : Nat) (l1 l2 : Nat) (l3 : Int32) (M : Mm) : Option ((Nat × Nat × Nat × Int32 × Mm) ⊕ Int32 × Mm) := cal (fX5_lower l1 M) fun v274 M273 => cal (fX6_lower l2 M273) fun v276 M275 => if (lg_cmp v274 v276) = 0 then bL_law_1380 xs L l1 l2 l3 M275 else some (.inr (0, M275))
set_option maxRecDepth 100000 in
set_option maxHeartbeats 4000000 in
theorem tL_42 {x : SB} {b L : Nat} {xs : Nat → Int32} {F : ((Nat × Nat × Nat × Int32 × Mm) ⊕ Int32 × Mm) → Prop} (X : CX x cL_law RL 10) (hL : x.2.2.2.1 = 4) (HX : XS x b L xs) (Hr : RTI x cL_law .boolean F Sum.inr) (HH : ∀ q, F (.inl q) → pL_law x b q) {l1 l2 : Nat} {l3 : Int32} {M : Mm} (h_l1 : sh l1 = 15) (h_l2 : sh l2 = 16) : SIM x F (cL_42 xs L l1 l2 l3 M) 1293 [(0, .ref b), (1, rf x.2.1 l1), (2, rf x.2.1 l2), (3, .int l3)] [] M := by
  unfold cL_42
  refine r_aload_n X dL_law_1293 rfl 1 rfl ?_
  refine r_callVJ [] X mt_L_187 (by decide) h_l1 (by decide) (okX5_lower _ _ X.J h_l1) rfl (Nat.le_of_ble_eq_true rfl) dL_law_1294 rfl (fun v274 M273 => ?_)
  refine r_aload_n X dL_law_1297 rfl 2 rfl ?_
  refine r_callVJ [] X mt_L_190 (by decide) h_l2 (by decide) (okX6_lower _ _ X.J h_l2) rfl (Nat.le_of_ble_eq_true rfl) dL_law_1298 rfl (fun v276 M275 => ?_)
  refine r_lcmp X dL_law_1301 ?_
  refine r_if_eq 1380 X dL_law_1302 (by decide) ?_ ?_
  · exact r_to [(0, .ref b), (1, rf x.2.1 l1), (2, rf x.2.1 l2), (3, .int l3)] [0, 1, 2, 3] rfl (sL_law_1380 X hL HX Hr HH h_l1 h_l2)
  · refine r_iconst (v := 0) X dL_law_1305 (by decide) ?_
    exact r_iret Hr rfl dL_law_1306
set_option maxRecDepth 100000 in
noncomputable def cL_43 (xs : Nat → Int32) (L : Nat) (l1 l2 : Nat) (l3 : Int32) (M : Mm) : Option ((Nat × Nat × Nat × Int32 × Mm) ⊕ Int32 × Mm) := ldS xs L (l3 + 1) fun v277 => cal (fX5_count l1 v277 M) fun v279 M278 => ldS xs L (l3 + 1) fun v280 => cal (fX6_count l2 v280 M278) fun v282 M281 => if v279 = v282 then bL_law_1380 xs L l1 l2 l3 M281 else some (.inr (0, M281))
set_option maxRecDepth 100000 in
set_option maxHeartbeats 4000000 in
theorem tL_43 {x : SB} {b L : Nat} {xs : Nat → Int32} {F : ((Nat × Nat × Nat × Int32 × Mm) ⊕ Int32 × Mm) → Prop} (X : CX x cL_law RL 10) (hL : x.2.2.2.1 = 4) (HX : XS x b L xs) (Hr : RTI x cL_law .boolean F Sum.inr) (HH : ∀ q, F (.inl q) → pL_law x b q) {l1 l2 : Nat} {l3 : Int32} {M : Mm} (h_l1 : sh l1 = 15) (h_l2 : sh l2 = 16) : SIM x F (cL_43 xs L l1 l2 l3 M) 1307 [(0, .ref b), (1, rf x.2.1 l1), (2, rf x.2.1 l2), (3, .int l3)] [] M := by
  unfold cL_43
  refine r_aload_n X dL_law_1307 rfl 1 rfl ?_
  refine r_aload_n X dL_law_1308 rfl 0 rfl ?_
  refine r_iload_n X dL_law_1309 rfl 3 rfl ?_
  refine r_iconst (v := 1) X dL_law_1310 (by decide) ?_
  refine r_iadd X dL_law_1311 ?_
  refine r_ildx X HX dL_law_1312 (fun v277 => ?_)
  refine r_callVI [.int v277] X mt_L_191 (by decide) h_l1 (by decide) (okX5_count _ _ X.J h_l1) rfl (Nat.le_of_ble_eq_true rfl) dL_law_1313 rfl (fun v279 M278 => ?_)
  refine r_aload_n X dL_law_1316 rfl 2 rfl ?_
  refine r_aload_n X dL_law_1317 rfl 0 rfl ?_
  refine r_iload_n X dL_law_1318 rfl 3 rfl ?_
  refine r_iconst (v := 1) X dL_law_1319 (by decide) ?_
  refine r_iadd X dL_law_1320 ?_
  refine r_ildx X HX dL_law_1321 (fun v280 => ?_)
  refine r_callVI [.int v280] X mt_L_194 (by decide) h_l2 (by decide) (okX6_count _ _ X.J h_l2) rfl (Nat.le_of_ble_eq_true rfl) dL_law_1322 rfl (fun v282 M281 => ?_)
  refine r_icmp_eq 1380 X dL_law_1325 (by decide) ?_ ?_
  · exact r_to [(0, .ref b), (1, rf x.2.1 l1), (2, rf x.2.1 l2), (3, .int l3)] [0, 1, 2, 3] rfl (sL_law_1380 X hL HX Hr HH h_l1 h_l2)
  · refine r_iconst (v := 0) X dL_law_1328 (by decide) ?_
    exact r_iret Hr rfl dL_law_1329
set_option maxRecDepth 100000 in
noncomputable def cL_44 (xs : Nat → Int32) (L : Nat) (l1 l2 : Nat) (l3 : Int32) (M : Mm) : Option ((Nat × Nat × Nat × Int32 × Mm) ⊕ Int32 × Mm) := cal (fX5_finding l1 M) fun v284 M283 => cal (fX6_finding l2 M283) fun v286 M285 => if v284 = v286 then bL_law_1380 xs L l1 l2 l3 M285 else some (.inr (0, M285))
set_option maxRecDepth 100000 in
set_option maxHeartbeats 4000000 in
theorem tL_44 {x : SB} {b L : Nat} {xs : Nat → Int32} {F : ((Nat × Nat × Nat × Int32 × Mm) ⊕ Int32 × Mm) → Prop} (X : CX x cL_law RL 10) (hL : x.2.2.2.1 = 4) (HX : XS x b L xs) (Hr : RTI x cL_law .boolean F Sum.inr) (HH : ∀ q, F (.inl q) → pL_law x b q) {l1 l2 : Nat} {l3 : Int32} {M : Mm} (h_l1 : sh l1 = 15) (h_l2 : sh l2 = 16) : SIM x F (cL_44 xs L l1 l2 l3 M) 1330 [(0, .ref b), (1, rf x.2.1 l1), (2, rf x.2.1 l2), (3, .int l3)] [] M := by
  unfold cL_44
  refine r_aload_n X dL_law_1330 rfl 1 rfl ?_
  refine r_callVI [] X mt_L_195 (by decide) h_l1 (by decide) (okX5_finding _ _ X.J h_l1) rfl (Nat.le_of_ble_eq_true rfl) dL_law_1331 rfl (fun v284 M283 => ?_)
  refine r_aload_n X dL_law_1334 rfl 2 rfl ?_
  refine r_callVI [] X mt_L_198 (by decide) h_l2 (by decide) (okX6_finding _ _ X.J h_l2) rfl (Nat.le_of_ble_eq_true rfl) dL_law_1335 rfl (fun v286 M285 => ?_)
  refine r_icmp_eq 1380 X dL_law_1338 (by decide) ?_ ?_
  · exact r_to [(0, .ref b), (1, rf x.2.1 l1), (2, rf x.2.1 l2), (3, .int l3)] [0, 1, 2, 3] rfl (sL_law_1380 X hL HX Hr HH h_l1 h_l2)
  · refine r_iconst (v := 0) X dL_law_1341 (by decide) ?_
    exact r_iret Hr rfl dL_law_1342
set_option maxRecDepth 100000 in
noncomputable def cL_45 (xs : Nat → Int32) (L : Nat) (l1 l2 : Nat) (l3 : Int32) (M : Mm) : Option ((Nat × Nat × Nat × Int32 × Mm) ⊕ Int32 × Mm) := ldS xs L (l3 + 1) fun v287 => cal (fX5_findings l1 v287 M) fun v289 M288 => ldS xs L (l3 + 1) fun v290 => cal (fX6_findings l2 v290 M288) fun v292 M291 => if v289 = v292 then bL_law_1380 xs L l1 l2 l3 M291 else some (.inr (0, M291))
set_option maxRecDepth 100000 in
set_option maxHeartbeats 4000000 in
theorem tL_45 {x : SB} {b L : Nat} {xs : Nat → Int32} {F : ((Nat × Nat × Nat × Int32 × Mm) ⊕ Int32 × Mm) → Prop} (X : CX x cL_law RL 10) (hL : x.2.2.2.1 = 4) (HX : XS x b L xs) (Hr : RTI x cL_law .boolean F Sum.inr) (HH : ∀ q, F (.inl q) → pL_law x b q) {l1 l2 : Nat} {l3 : Int32} {M : Mm} (h_l1 : sh l1 = 15) (h_l2 : sh l2 = 16) : SIM x F (cL_45 xs L l1 l2 l3 M) 1343 [(0, .ref b), (1, rf x.2.1 l1), (2, rf x.2.1 l2), (3, .int l3)] [] M := by
  unfold cL_45
  refine r_aload_n X dL_law_1343 rfl 1 rfl ?_
  refine r_aload_n X dL_law_1344 rfl 0 rfl ?_
  refine r_iload_n X dL_law_1345 rfl 3 rfl ?_
  refine r_iconst (v := 1) X dL_law_1346 (by decide) ?_
  refine r_iadd X dL_law_1347 ?_
  refine r_ildx X HX dL_law_1348 (fun v287 => ?_)
  refine r_callVI [.int v287] X mt_L_199 (by decide) h_l1 (by decide) (okX5_findings _ _ X.J h_l1) rfl (Nat.le_of_ble_eq_true rfl) dL_law_1349 rfl (fun v289 M288 => ?_)
  refine r_aload_n X dL_law_1352 rfl 2 rfl ?_
  refine r_aload_n X dL_law_1353 rfl 0 rfl ?_
  refine r_iload_n X dL_law_1354 rfl 3 rfl ?_
  refine r_iconst (v := 1) X dL_law_1355 (by decide) ?_
  refine r_iadd X dL_law_1356 ?_
  refine r_ildx X HX dL_law_1357 (fun v290 => ?_)
  refine r_callVI [.int v290] X mt_L_202 (by decide) h_l2 (by decide) (okX6_findings _ _ X.J h_l2) rfl (Nat.le_of_ble_eq_true rfl) dL_law_1358 rfl (fun v292 M291 => ?_)
  refine r_icmp_eq 1380 X dL_law_1361 (by decide) ?_ ?_
  · exact r_to [(0, .ref b), (1, rf x.2.1 l1), (2, rf x.2.1 l2), (3, .int l3)] [0, 1, 2, 3] rfl (sL_law_1380 X hL HX Hr HH h_l1 h_l2)
  · refine r_iconst (v := 0) X dL_law_1364 (by decide) ?_
    exact r_iret Hr rfl dL_law_1365
set_option maxRecDepth 100000 in
noncomputable def cL_46 (xs : Nat → Int32) (L : Nat) (l1 l2 : Nat) (l3 : Int32) (M : Mm) : Option ((Nat × Nat × Nat × Int32 × Mm) ⊕ Int32 × Mm) := cal (fX5_digest l1 M) fun v294 M293 => cal (fX6_digest l2 M293) fun v296 M295 => if (lg_cmp v294 v296) = 0 then bL_law_1380 xs L l1 l2 l3 M295 else some (.inr (0, M295))
set_option maxRecDepth 100000 in
set_option maxHeartbeats 4000000 in
theorem tL_46 {x : SB} {b L : Nat} {xs : Nat → Int32} {F : ((Nat × Nat × Nat × Int32 × Mm) ⊕ Int32 × Mm) → Prop} (X : CX x cL_law RL 10) (hL : x.2.2.2.1 = 4) (HX : XS x b L xs) (Hr : RTI x cL_law .boolean F Sum.inr) (HH : ∀ q, F (.inl q) → pL_law x b q) {l1 l2 : Nat} {l3 : Int32} {M : Mm} (h_l1 : sh l1 = 15) (h_l2 : sh l2 = 16) : SIM x F (cL_46 xs L l1 l2 l3 M) 1366 [(0, .ref b), (1, rf x.2.1 l1), (2, rf x.2.1 l2), (3, .int l3)] [] M := by
  unfold cL_46
  refine r_aload_n X dL_law_1366 rfl 1 rfl ?_
  refine r_callVJ [] X mt_L_203 (by decide) h_l1 (by decide) (okX5_digest _ _ X.J h_l1) rfl (Nat.le_of_ble_eq_true rfl) dL_law_1367 rfl (fun v294 M293 => ?_)
  refine r_aload_n X dL_law_1370 rfl 2 rfl ?_
  refine r_callVJ [] X mt_L_206 (by decide) h_l2 (by decide) (okX6_digest _ _ X.J h_l2) rfl (Nat.le_of_ble_eq_true rfl) dL_law_1371 rfl (fun v296 M295 => ?_)
  refine r_lcmp X dL_law_1374 ?_
  refine r_if_eq 1380 X dL_law_1375 (by decide) ?_ ?_
  · exact r_to [(0, .ref b), (1, rf x.2.1 l1), (2, rf x.2.1 l2), (3, .int l3)] [0, 1, 2, 3] rfl (sL_law_1380 X hL HX Hr HH h_l1 h_l2)
  · refine r_iconst (v := 0) X dL_law_1378 (by decide) ?_
    exact r_iret Hr rfl dL_law_1379
set_option maxRecDepth 100000 in
noncomputable def bL_law_18 (xs : Nat → Int32) (L : Nat) (l1 l2 : Nat) (l3 : Int32) (M : Mm) : Option ((Nat × Nat × Nat × Int32 × Mm) ⊕ Int32 × Mm) := if ((Int32.ofNat L) - 6) < l3 then some (.inr (1, M)) else ldS xs L l3 fun v1 => ltI (v1 &&& 63) fun v2 => if v2 = 0 then cL_0 xs L l1 l2 l3 M else if v2 = 1 then cL_1 xs L l1 l2 l3 M else if v2 = 2 then cL_2 xs L l1 l2 l3 M else if v2 = 3 then cL_3 xs L l1 l2 l3 M else if v2 = 4 then cL_4 xs L l1 l2 l3 M else if v2 = 5 then cL_5 xs L l1 l2 l3 M else if v2 = 6 then cL_6 xs L l1 l2 l3 M else if v2 = 7 then cL_7 xs L l1 l2 l3 M else if v2 = 8 then cL_8 xs L l1 l2 l3 M else if v2 = 9 then cL_9 xs L l1 l2 l3 M else if v2 = 10 then cL_10 xs L l1 l2 l3 M else if v2 = 11 then cL_11 xs L l1 l2 l3 M else if v2 = 12 then cL_12 xs L l1 l2 l3 M else if v2 = 13 then cL_13 xs L l1 l2 l3 M else if v2 = 14 then cL_14 xs L l1 l2 l3 M else if v2 = 15 then cL_15 xs L l1 l2 l3 M else if v2 = 16 then cL_16 xs L l1 l2 l3 M else if v2 = 17 then cL_17 xs L l1 l2 l3 M else if v2 = 18 then cL_18 xs L l1 l2 l3 M else if v2 = 19 then cL_19 xs L l1 l2 l3 M else if v2 = 20 then cL_20 xs L l1 l2 l3 M else if v2 = 21 then cL_21 xs L l1 l2 l3 M else if v2 = 22 then cL_22 xs L l1 l2 l3 M else if v2 = 23 then cL_23 xs L l1 l2 l3 M else if v2 = 24 then cL_24 xs L l1 l2 l3 M else if v2 = 25 then cL_25 xs L l1 l2 l3 M else if v2 = 26 then cL_26 xs L l1 l2 l3 M else if v2 = 27 then cL_27 xs L l1 l2 l3 M else if v2 = 28 then cL_28 xs L l1 l2 l3 M else if v2 = 29 then cL_29 xs L l1 l2 l3 M else if v2 = 30 then cL_30 xs L l1 l2 l3 M else if v2 = 31 then cL_31 xs L l1 l2 l3 M else if v2 = 32 then cL_32 xs L l1 l2 l3 M else if v2 = 33 then cL_33 xs L l1 l2 l3 M else if v2 = 34 then cL_34 xs L l1 l2 l3 M else if v2 = 35 then cL_35 xs L l1 l2 l3 M else if v2 = 36 then cL_36 xs L l1 l2 l3 M else if v2 = 37 then cL_37 xs L l1 l2 l3 M else if v2 = 38 then cL_38 xs L l1 l2 l3 M else if v2 = 39 then cL_39 xs L l1 l2 l3 M else if v2 = 40 then cL_40 xs L l1 l2 l3 M else if v2 = 41 then cL_41 xs L l1 l2 l3 M else if v2 = 42 then cL_42 xs L l1 l2 l3 M else if v2 = 43 then cL_43 xs L l1 l2 l3 M else if v2 = 44 then cL_44 xs L l1 l2 l3 M else if v2 = 45 then cL_45 xs L l1 l2 l3 M else if v2 = 46 then cL_46 xs L l1 l2 l3 M else bL_law_1380 xs L l1 l2 l3 M
set_option maxRecDepth 100000 in
set_option maxHeartbeats 4000000 in
theorem sL_law_18 {x : SB} {b L : Nat} {xs : Nat → Int32} {F : ((Nat × Nat × Nat × Int32 × Mm) ⊕ Int32 × Mm) → Prop} (X : CX x cL_law RL 10) (hL : x.2.2.2.1 = 4) (HX : XS x b L xs) (Hr : RTI x cL_law .boolean F Sum.inr) (HH : ∀ q, F (.inl q) → pL_law x b q) {l1 l2 : Nat} {l3 : Int32} {M : Mm} (h_l1 : sh l1 = 15) (h_l2 : sh l2 = 16) : SIM x F (bL_law_18 xs L l1 l2 l3 M) 18 [(0, .ref b), (1, rf x.2.1 l1), (2, rf x.2.1 l2), (3, .int l3)] [] M := by
  unfold bL_law_18
  refine r_iload_n X dL_law_18 rfl 3 rfl ?_
  refine r_aload_n X dL_law_19 rfl 0 rfl ?_
  refine r_alenx X HX dL_law_20 ?_
  refine r_bipush (v := 6) X dL_law_21 (by decide) ?_
  refine r_isub X dL_law_23 ?_
  refine r_icmp_gt 1386 X dL_law_24 (by decide) ?_ ?_
  · refine r_iconst (v := 1) X dL_law_1386 (by decide) ?_
    exact r_iret Hr rfl dL_law_1387
  · refine r_aload_n X dL_law_27 rfl 0 rfl ?_
    refine r_iload_n X dL_law_28 rfl 3 rfl ?_
    refine r_ildx X HX dL_law_29 (fun v1 => ?_)
    refine r_bipush (v := 63) X dL_law_30 (by decide) ?_
    refine r_iand X dL_law_32 ?_
    refine r_letI (fun v2 => ?_)
    refine r_tsw 0 236 X dL_law_33 (by decide) (by decide) rfl (by decide) ?_ (fun q0 => ?_)
    · exact tL_0 X hL HX Hr HH h_l1 h_l2
    refine r_tsw 1 269 X dL_law_33 (by decide) (by decide) rfl (by decide) ?_ (fun q1 => ?_)
    · exact tL_1 X hL HX Hr HH h_l1 h_l2
    refine r_tsw 2 312 X dL_law_33 (by decide) (by decide) rfl (by decide) ?_ (fun q2 => ?_)
    · exact tL_2 X hL HX Hr HH h_l1 h_l2
    refine r_tsw 3 345 X dL_law_33 (by decide) (by decide) rfl (by decide) ?_ (fun q3 => ?_)
    · exact tL_3 X hL HX Hr HH h_l1 h_l2
    refine r_tsw 4 368 X dL_law_33 (by decide) (by decide) rfl (by decide) ?_ (fun q4 => ?_)
    · exact tL_4 X hL HX Hr HH h_l1 h_l2
    refine r_tsw 5 431 X dL_law_33 (by decide) (by decide) rfl (by decide) ?_ (fun q5 => ?_)
    · exact tL_5 X hL HX Hr HH h_l1 h_l2
    refine r_tsw 6 454 X dL_law_33 (by decide) (by decide) rfl (by decide) ?_ (fun q6 => ?_)
    · exact tL_6 X hL HX Hr HH h_l1 h_l2
    refine r_tsw 7 487 X dL_law_33 (by decide) (by decide) rfl (by decide) ?_ (fun q7 => ?_)
    · exact tL_7 X hL HX Hr HH h_l1 h_l2
    refine r_tsw 8 530 X dL_law_33 (by decide) (by decide) rfl (by decide) ?_ (fun q8 => ?_)
    · exact tL_8 X hL HX Hr HH h_l1 h_l2
    refine r_tsw 9 553 X dL_law_33 (by decide) (by decide) rfl (by decide) ?_ (fun q9 => ?_)
    · exact tL_9 X hL HX Hr HH h_l1 h_l2
    refine r_tsw 10 576 X dL_law_33 (by decide) (by decide) rfl (by decide) ?_ (fun q10 => ?_)
    · exact tL_10 X hL HX Hr HH h_l1 h_l2
    refine r_tsw 11 609 X dL_law_33 (by decide) (by decide) rfl (by decide) ?_ (fun q11 => ?_)
    · exact tL_11 X hL HX Hr HH h_l1 h_l2
    refine r_tsw 12 642 X dL_law_33 (by decide) (by decide) rfl (by decide) ?_ (fun q12 => ?_)
    · exact tL_12 X hL HX Hr HH h_l1 h_l2
    refine r_tsw 13 685 X dL_law_33 (by decide) (by decide) rfl (by decide) ?_ (fun q13 => ?_)
    · exact tL_13 X hL HX Hr HH h_l1 h_l2
    refine r_tsw 14 708 X dL_law_33 (by decide) (by decide) rfl (by decide) ?_ (fun q14 => ?_)
    · exact tL_14 X hL HX Hr HH h_l1 h_l2
    refine r_tsw 15 731 X dL_law_33 (by decide) (by decide) rfl (by decide) ?_ (fun q15 => ?_)
    · exact tL_15 X hL HX Hr HH h_l1 h_l2
    refine r_tsw 16 754 X dL_law_33 (by decide) (by decide) rfl (by decide) ?_ (fun q16 => ?_)
    · exact tL_16 X hL HX Hr HH h_l1 h_l2
    refine r_tsw 17 777 X dL_law_33 (by decide) (by decide) rfl (by decide) ?_ (fun q17 => ?_)
    · exact tL_17 X hL HX Hr HH h_l1 h_l2
    refine r_tsw 18 810 X dL_law_33 (by decide) (by decide) rfl (by decide) ?_ (fun q18 => ?_)
    · exact tL_18 X hL HX Hr HH h_l1 h_l2
    refine r_tsw 19 843 X dL_law_33 (by decide) (by decide) rfl (by decide) ?_ (fun q19 => ?_)
    · exact tL_19 X hL HX Hr HH h_l1 h_l2
    refine r_tsw 20 866 X dL_law_33 (by decide) (by decide) rfl (by decide) ?_ (fun q20 => ?_)
    · exact tL_20 X hL HX Hr HH h_l1 h_l2
    refine r_tsw 21 879 X dL_law_33 (by decide) (by decide) rfl (by decide) ?_ (fun q21 => ?_)
    · exact tL_21 X hL HX Hr HH h_l1 h_l2
    refine r_tsw 22 902 X dL_law_33 (by decide) (by decide) rfl (by decide) ?_ (fun q22 => ?_)
    · exact tL_22 X hL HX Hr HH h_l1 h_l2
    refine r_tsw 23 925 X dL_law_33 (by decide) (by decide) rfl (by decide) ?_ (fun q23 => ?_)
    · exact tL_23 X hL HX Hr HH h_l1 h_l2
    refine r_tsw 24 948 X dL_law_33 (by decide) (by decide) rfl (by decide) ?_ (fun q24 => ?_)
    · exact tL_24 X hL HX Hr HH h_l1 h_l2
    refine r_tsw 25 961 X dL_law_33 (by decide) (by decide) rfl (by decide) ?_ (fun q25 => ?_)
    · exact tL_25 X hL HX Hr HH h_l1 h_l2
    refine r_tsw 26 984 X dL_law_33 (by decide) (by decide) rfl (by decide) ?_ (fun q26 => ?_)
    · exact tL_26 X hL HX Hr HH h_l1 h_l2
    refine r_tsw 27 997 X dL_law_33 (by decide) (by decide) rfl (by decide) ?_ (fun q27 => ?_)
    · exact tL_27 X hL HX Hr HH h_l1 h_l2
    refine r_tsw 28 1010 X dL_law_33 (by decide) (by decide) rfl (by decide) ?_ (fun q28 => ?_)
    · exact tL_28 X hL HX Hr HH h_l1 h_l2
    refine r_tsw 29 1023 X dL_law_33 (by decide) (by decide) rfl (by decide) ?_ (fun q29 => ?_)
    · exact tL_29 X hL HX Hr HH h_l1 h_l2
    refine r_tsw 30 1056 X dL_law_33 (by decide) (by decide) rfl (by decide) ?_ (fun q30 => ?_)
    · exact tL_30 X hL HX Hr HH h_l1 h_l2
    refine r_tsw 31 1089 X dL_law_33 (by decide) (by decide) rfl (by decide) ?_ (fun q31 => ?_)
    · exact tL_31 X hL HX Hr HH h_l1 h_l2
    refine r_tsw 32 1102 X dL_law_33 (by decide) (by decide) rfl (by decide) ?_ (fun q32 => ?_)
    · exact tL_32 X hL HX Hr HH h_l1 h_l2
    refine r_tsw 33 1115 X dL_law_33 (by decide) (by decide) rfl (by decide) ?_ (fun q33 => ?_)
    · exact tL_33 X hL HX Hr HH h_l1 h_l2
    refine r_tsw 34 1128 X dL_law_33 (by decide) (by decide) rfl (by decide) ?_ (fun q34 => ?_)
    · exact tL_34 X hL HX Hr HH h_l1 h_l2
    refine r_tsw 35 1141 X dL_law_33 (by decide) (by decide) rfl (by decide) ?_ (fun q35 => ?_)
    · exact tL_35 X hL HX Hr HH h_l1 h_l2
    refine r_tsw 36 1164 X dL_law_33 (by decide) (by decide) rfl (by decide) ?_ (fun q36 => ?_)
    · exact tL_36 X hL HX Hr HH h_l1 h_l2
    refine r_tsw 37 1187 X dL_law_33 (by decide) (by decide) rfl (by decide) ?_ (fun q37 => ?_)
    · exact tL_37 X hL HX Hr HH h_l1 h_l2
    refine r_tsw 38 1220 X dL_law_33 (by decide) (by decide) rfl (by decide) ?_ (fun q38 => ?_)
    · exact tL_38 X hL HX Hr HH h_l1 h_l2
    refine r_tsw 39 1233 X dL_law_33 (by decide) (by decide) rfl (by decide) ?_ (fun q39 => ?_)
    · exact tL_39 X hL HX Hr HH h_l1 h_l2
    refine r_tsw 40 1266 X dL_law_33 (by decide) (by decide) rfl (by decide) ?_ (fun q40 => ?_)
    · exact tL_40 X hL HX Hr HH h_l1 h_l2
    refine r_tsw 41 1279 X dL_law_33 (by decide) (by decide) rfl (by decide) ?_ (fun q41 => ?_)
    · exact tL_41 X hL HX Hr HH h_l1 h_l2
    refine r_tsw 42 1293 X dL_law_33 (by decide) (by decide) rfl (by decide) ?_ (fun q42 => ?_)
    · exact tL_42 X hL HX Hr HH h_l1 h_l2
    refine r_tsw 43 1307 X dL_law_33 (by decide) (by decide) rfl (by decide) ?_ (fun q43 => ?_)
    · exact tL_43 X hL HX Hr HH h_l1 h_l2
    refine r_tsw 44 1330 X dL_law_33 (by decide) (by decide) rfl (by decide) ?_ (fun q44 => ?_)
    · exact tL_44 X hL HX Hr HH h_l1 h_l2
    refine r_tsw 45 1343 X dL_law_33 (by decide) (by decide) rfl (by decide) ?_ (fun q45 => ?_)
    · exact tL_45 X hL HX Hr HH h_l1 h_l2
    refine r_tsw 46 1366 X dL_law_33 (by decide) (by decide) rfl (by decide) ?_ (fun q46 => ?_)
    · exact tL_46 X hL HX Hr HH h_l1 h_l2
    refine r_tswd 1380 X dL_law_33 (by have := i32_ne q0 (n := 0) (by decide); have := i32_ne q1 (n := 1) (by decide); have := i32_ne q2 (n := 2) (by decide); have := i32_ne q3 (n := 3) (by decide); have := i32_ne q4 (n := 4) (by decide); have := i32_ne q5 (n := 5) (by decide); have := i32_ne q6 (n := 6) (by decide); have := i32_ne q7 (n := 7) (by decide); have := i32_ne q8 (n := 8) (by decide); have := i32_ne q9 (n := 9) (by decide); have := i32_ne q10 (n := 10) (by decide); have := i32_ne q11 (n := 11) (by decide); have := i32_ne q12 (n := 12) (by decide); have := i32_ne q13 (n := 13) (by decide); have := i32_ne q14 (n := 14) (by decide); have := i32_ne q15 (n := 15) (by decide); have := i32_ne q16 (n := 16) (by decide); have := i32_ne q17 (n := 17) (by decide); have := i32_ne q18 (n := 18) (by decide); have := i32_ne q19 (n := 19) (by decide); have := i32_ne q20 (n := 20) (by decide); have := i32_ne q21 (n := 21) (by decide); have := i32_ne q22 (n := 22) (by decide); have := i32_ne q23 (n := 23) (by decide); have := i32_ne q24 (n := 24) (by decide); have := i32_ne q25 (n := 25) (by decide); have := i32_ne q26 (n := 26) (by decide); have := i32_ne q27 (n := 27) (by decide); have := i32_ne q28 (n := 28) (by decide); have := i32_ne q29 (n := 29) (by decide); have := i32_ne q30 (n := 30) (by decide); have := i32_ne q31 (n := 31) (by decide); have := i32_ne q32 (n := 32) (by decide); have := i32_ne q33 (n := 33) (by decide); have := i32_ne q34 (n := 34) (by decide); have := i32_ne q35 (n := 35) (by decide); have := i32_ne q36 (n := 36) (by decide); have := i32_ne q37 (n := 37) (by decide); have := i32_ne q38 (n := 38) (by decide); have := i32_ne q39 (n := 39) (by decide); have := i32_ne q40 (n := 40) (by decide); have := i32_ne q41 (n := 41) (by decide); have := i32_ne q42 (n := 42) (by decide); have := i32_ne q43 (n := 43) (by decide); have := i32_ne q44 (n := 44) (by decide); have := i32_ne q45 (n := 45) (by decide); have := i32_ne q46 (n := 46) (by decide); omega) (by decide) ?_
    exact r_to [(0, .ref b), (1, rf x.2.1 l1), (2, rf x.2.1 l2), (3, .int l3)] [0, 1, 2, 3] rfl (sL_law_1380 X hL HX Hr HH h_l1 h_l2)
noncomputable def gL_law (xs : Nat → Int32) (L : Nat) (q : Nat × Nat × Nat × Int32 × Mm) : Option ((Nat × Nat × Nat × Int32 × Mm) ⊕ Int32 × Mm) := match q.1 with
  | 1 => bL_law_18 xs L q.2.1 q.2.2.1 q.2.2.2.1 q.2.2.2.2
  | _ => none
/-- from the loop's head, if the loop comes to its end with r, so does the machine -/
theorem law_go {x : SB} {b L : Nat} {xs : Nat → Int32} {r : Int32 × Mm} (X : CX x cL_law RL 10) (hL : x.2.2.2.1 = 4) (HX : XS x b L xs) (Hr : RTI x cL_law .boolean (fun q : Int32 × Mm => q = r) (fun q => q)) {l1 l2 : Nat} {l3 : Int32} {M : Mm} (h : fnl (gL_law xs L) (1, l1, l2, l3, M) = some r) (h_l1 : sh l1 = 15) (h_l2 : sh l2 = 16) {ls : Array Slot} {H : Heap} {locs : List Loc} (hl : lv_has ls x.2.2.2.1 [(0, .ref b), (1, rf x.2.1 l1), (2, rf x.2.1 l2), (3, .int l3)]) (hP : PW x.2.1 M H) (hS : SH x H locs) : SW x H locs 18 ls [] := by
  have Hr2 : RTI x cL_law .boolean (Sum.elim (pL_law x b) (fun q => q = r)) Sum.inr := fun v M h => Hr v M h
  have HP : pL_law x b (1, l1, l2, l3, M) := by
    refine fnl_ind (pL_law x b) (fun q hq => ?_) h
    obtain ⟨n, l1, l2, l3, M⟩ := q
    match n, hq with
    | 1, hq => exact fun h_l1 h_l2 ls H locs hl hP hS => sL_law_18 X hL HX Hr2 (fun _ h => h) h_l1 h_l2 hq ls H locs hl hP hS
    | 0, hq => exact trivial
    | n + 2, hq => exact trivial
  exact HP h_l1 h_l2 ls H locs hl hP hS
