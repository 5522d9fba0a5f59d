theorem ml_L_83 : Cond.methodLink RL 83 yL_plug ∈ gw := gwm (i := 620) (by decide +kernel) (by decide +kernel)
theorem ki_StickPairsLaw : Cond.initialized RL ∈ gw := gwm (i := 79) (by decide +kernel) (by decide +kernel)
theorem st_L_plug : Cond.static yL_plug ∈ gw := gwm (i := 621) (by decide +kernel) (by decide +kernel)
theorem ml_L_88 : Cond.methodLink RL 88 yX6_plug ∈ gw := gwm (i := 1079) (by decide +kernel) (by decide +kernel)
theorem kc_X6_plug : Cond.code yX6_plug cX6_plug 6 (some .int) ∈ gw := gwm (i := 1082) (by decide +kernel) (by decide +kernel)
theorem ii_X6_plug : Cond.instanceMethod yX6_plug ∈ gw := gwm (i := 1080) (by decide +kernel) (by decide +kernel)
theorem is_X6_plug : Cond.selects RX6 yX6_plug yX6_plug ∈ gw := gwm (i := 1081) (by decide +kernel) (by decide +kernel)
theorem ml_L_89 : Cond.methodLink RL 89 yX6_thrown ∈ gw := gwm (i := 1059) (by decide +kernel) (by decide +kernel)
theorem kc_X6_thrown : Cond.code yX6_thrown cX6_thrown 1 (some .int) ∈ gw := gwm (i := 1062) (by decide +kernel) (by decide +kernel)
theorem ii_X6_thrown : Cond.instanceMethod yX6_thrown ∈ gw := gwm (i := 1060) (by decide +kernel) (by decide +kernel)
theorem is_X6_thrown : Cond.selects RX6 yX6_thrown yX6_thrown ∈ gw := gwm (i := 1061) (by decide +kernel) (by decide +kernel)
theorem ml_L_92 : Cond.methodLink RL 92 yL_pull ∈ gw := gwm (i := 752) (by decide +kernel) (by decide +kernel)
theorem st_L_pull : Cond.static yL_pull ∈ gw := gwm (i := 753) (by decide +kernel) (by decide +kernel)
theorem ml_L_95 : Cond.methodLink RL 95 yX6_pull ∈ gw := gwm (i := 1105) (by decide +kernel) (by decide +kernel)
theorem kc_X6_pull : Cond.code yX6_pull cX6_pull 3 (some .int) ∈ gw := gwm (i := 1108) (by decide +kernel) (by decide +kernel)
theorem ii_X6_pull : Cond.instanceMethod yX6_pull ∈ gw := gwm (i := 1106) (by decide +kernel) (by decide +kernel)
theorem is_X6_pull : Cond.selects RX6 yX6_pull yX6_pull ∈ gw := gwm (i := 1107) (by decide +kernel) (by decide +kernel)
theorem ml_L_96 : Cond.methodLink RL 96 yL_fail ∈ gw := gwm (i := 774) (by decide +kernel) (by decide +kernel)
theorem st_L_fail : Cond.static yL_fail ∈ gw := gwm (i := 775) (by decide +kernel) (by decide +kernel)
theorem ml_L_98 : Cond.methodLink RL 98 yX6_fail ∈ gw := gwm (i := 1129) (by decide +kernel) (by decide +kernel)
theorem kc_X6_fail : Cond.code yX6_fail cX6_fail 3 (some .int) ∈ gw := gwm (i := 1132) (by decide +kernel) (by decide +kernel)
theorem ii_X6_fail : Cond.instanceMethod yX6_fail ∈ gw := gwm (i := 1130) (by decide +kernel) (by decide +kernel)
theorem is_X6_fail : Cond.selects RX6 yX6_fail yX6_fail ∈ gw := gwm (i := 1131) (by decide +kernel) (by decide +kernel)
theorem ml_L_99 : Cond.methodLink RL 99 yL_start ∈ gw := gwm (i := 787) (by decide +kernel) (by decide +kernel)
theorem st_L_start : Cond.static yL_start ∈ gw := gwm (i := 788) (by decide +kernel) (by decide +kernel)
theorem ml_L_102 : Cond.methodLink RL 102 yX6_start ∈ gw := gwm (i := 1133) (by decide +kernel) (by decide +kernel)
theorem kc_X6_start : Cond.code yX6_start cX6_start 1 (some .int) ∈ gw := gwm (i := 1136) (by decide +kernel) (by decide +kernel)
theorem ii_X6_start : Cond.instanceMethod yX6_start ∈ gw := gwm (i := 1134) (by decide +kernel) (by decide +kernel)
theorem is_X6_start : Cond.selects RX6 yX6_start yX6_start ∈ gw := gwm (i := 1135) (by decide +kernel) (by decide +kernel)
theorem ml_L_103 : Cond.methodLink RL 103 yL_stop ∈ gw := gwm (i := 809) (by decide +kernel) (by decide +kernel)
theorem st_L_stop : Cond.static yL_stop ∈ gw := gwm (i := 810) (by decide +kernel) (by decide +kernel)
theorem ml_L_105 : Cond.methodLink RL 105 yX6_stop ∈ gw := gwm (i := 1157) (by decide +kernel) (by decide +kernel)
theorem kc_X6_stop : Cond.code yX6_stop cX6_stop 2 (some .int) ∈ gw := gwm (i := 1160) (by decide +kernel) (by decide +kernel)
theorem ii_X6_stop : Cond.instanceMethod yX6_stop ∈ gw := gwm (i := 1158) (by decide +kernel) (by decide +kernel)
theorem is_X6_stop : Cond.selects RX6 yX6_stop yX6_stop ∈ gw := gwm (i := 1159) (by decide +kernel) (by decide +kernel)
theorem ml_L_106 : Cond.methodLink RL 106 yL_write ∈ gw := gwm (i := 834) (by decide +kernel) (by decide +kernel)
theorem st_L_write : Cond.static yL_write ∈ gw := gwm (i := 835) (by decide +kernel) (by decide +kernel)
theorem ml_L_109 : Cond.methodLink RL 109 yX6_write ∈ gw := gwm (i := 1161) (by decide +kernel) (by decide +kernel)
theorem kc_X6_write : Cond.code yX6_write cX6_write 4 (some .int) ∈ gw := gwm (i := 1164) (by decide +kernel) (by decide +kernel)
theorem ii_X6_write : Cond.instanceMethod yX6_write ∈ gw := gwm (i := 1162) (by decide +kernel) (by decide +kernel)
theorem is_X6_write : Cond.selects RX6 yX6_write yX6_write ∈ gw := gwm (i := 1163) (by decide +kernel) (by decide +kernel)
theorem ml_L_110 : Cond.methodLink RL 110 yL_read ∈ gw := gwm (i := 849) (by decide +kernel) (by decide +kernel)
theorem st_L_read : Cond.static yL_read ∈ gw := gwm (i := 850) (by decide +kernel) (by decide +kernel)
theorem ml_L_112 : Cond.methodLink RL 112 yX6_read ∈ gw := gwm (i := 1221) (by decide +kernel) (by decide +kernel)
theorem kc_X6_read : Cond.code yX6_read cX6_read 2 (some .int) ∈ gw := gwm (i := 1224) (by decide +kernel) (by decide +kernel)
theorem ii_X6_read : Cond.instanceMethod yX6_read ∈ gw := gwm (i := 1222) (by decide +kernel) (by decide +kernel)
theorem is_X6_read : Cond.selects RX6 yX6_read yX6_read ∈ gw := gwm (i := 1223) (by decide +kernel) (by decide +kernel)
theorem ml_L_113 : Cond.methodLink RL 113 yL_rest ∈ gw := gwm (i := 870) (by decide +kernel) (by decide +kernel)
theorem st_L_rest : Cond.static yL_rest ∈ gw := gwm (i := 871) (by decide +kernel) (by decide +kernel)
theorem ml_L_115 : Cond.methodLink RL 115 yX6_rest ∈ gw := gwm (i := 1245) (by decide +kernel) (by decide +kernel)
theorem kc_X6_rest : Cond.code yX6_rest cX6_rest 2 (some .int) ∈ gw := gwm (i := 1248) (by decide +kernel) (by decide +kernel)
theorem ii_X6_rest : Cond.instanceMethod yX6_rest ∈ gw := gwm (i := 1246) (by decide +kernel) (by decide +kernel)
theorem is_X6_rest : Cond.selects RX6 yX6_rest yX6_rest ∈ gw := gwm (i := 1247) (by decide +kernel) (by decide +kernel)
theorem ml_L_116 : Cond.methodLink RL 116 yL_set ∈ gw := gwm (i := 879) (by decide +kernel) (by decide +kernel)
theorem st_L_set : Cond.static yL_set ∈ gw := gwm (i := 880) (by decide +kernel) (by decide +kernel)
theorem ml_L_118 : Cond.methodLink RL 118 yX6_set ∈ gw := gwm (i := 1249) (by decide +kernel) (by decide +kernel)
theorem kc_X6_set : Cond.code yX6_set cX6_set 4 (some .int) ∈ gw := gwm (i := 1252) (by decide +kernel) (by decide +kernel)
theorem ii_X6_set : Cond.instanceMethod yX6_set ∈ gw := gwm (i := 1250) (by decide +kernel) (by decide +kernel)
theorem is_X6_set : Cond.selects RX6 yX6_set yX6_set ∈ gw := gwm (i := 1251) (by decide +kernel) (by decide +kernel)
theorem ml_L_119 : Cond.methodLink RL 119 yL_append ∈ gw := gwm (i := 893) (by decide +kernel) (by decide +kernel)
theorem st_L_append : Cond.static yL_append ∈ gw := gwm (i := 894) (by decide +kernel) (by decide +kernel)
theorem ml_L_121 : Cond.methodLink RL 121 yX6_append ∈ gw := gwm (i := 1253) (by decide +kernel) (by decide +kernel)
theorem kc_X6_append : Cond.code yX6_append cX6_append 2 (some .int) ∈ gw := gwm (i := 1256) (by decide +kernel) (by decide +kernel)
theorem ii_X6_append : Cond.instanceMethod yX6_append ∈ gw := gwm (i := 1254) (by decide +kernel) (by decide +kernel)
theorem is_X6_append : Cond.selects RX6 yX6_append yX6_append ∈ gw := gwm (i := 1255) (by decide +kernel) (by decide +kernel)
theorem ml_L_122 : Cond.methodLink RL 122 yX5_clearBuffer ∈ gw := gwm (i := 284) (by decide +kernel) (by decide +kernel)
theorem kc_X5_clearBuffer : Cond.code yX5_clearBuffer cX5_clearBuffer 2 (some .int) ∈ gw := gwm (i := 287) (by decide +kernel) (by decide +kernel)
theorem ii_X5_clearBuffer : Cond.instanceMethod yX5_clearBuffer ∈ gw := gwm (i := 285) (by decide +kernel) (by decide +kernel)
theorem is_X5_clearBuffer : Cond.selects RX5 yX5_clearBuffer yX5_clearBuffer ∈ gw := gwm (i := 286) (by decide +kernel) (by decide +kernel)
theorem ml_L_125 : Cond.methodLink RL 125 yX6_clearBuffer ∈ gw := gwm (i := 1257) (by decide +kernel) (by decide +kernel)
theorem kc_X6_clearBuffer : Cond.code yX6_clearBuffer cX6_clearBuffer 2 (some .int) ∈ gw := gwm (i := 1260) (by decide +kernel) (by decide +kernel)
theorem ii_X6_clearBuffer : Cond.instanceMethod yX6_clearBuffer ∈ gw := gwm (i := 1258) (by decide +kernel) (by decide +kernel)
theorem is_X6_clearBuffer : Cond.selects RX6 yX6_clearBuffer yX6_clearBuffer ∈ gw := gwm (i := 1259) (by decide +kernel) (by decide +kernel)
theorem ml_L_126 : Cond.methodLink RL 126 yX5_firstError ∈ gw := gwm (i := 292) (by decide +kernel) (by decide +kernel)
theorem kc_X5_firstError : Cond.code yX5_firstError cX5_firstError 1 (some .int) ∈ gw := gwm (i := 295) (by decide +kernel) (by decide +kernel)
theorem ii_X5_firstError : Cond.instanceMethod yX5_firstError ∈ gw := gwm (i := 293) (by decide +kernel) (by decide +kernel)
theorem is_X5_firstError : Cond.selects RX5 yX5_firstError yX5_firstError ∈ gw := gwm (i := 294) (by decide +kernel) (by decide +kernel)
theorem ml_L_129 : Cond.methodLink RL 129 yX6_firstError ∈ gw := gwm (i := 1261) (by decide +kernel) (by decide +kernel)
theorem kc_X6_firstError : Cond.code yX6_firstError cX6_firstError 2 (some .int) ∈ gw := gwm (i := 1264) (by decide +kernel) (by decide +kernel)
theorem ii_X6_firstError : Cond.instanceMethod yX6_firstError ∈ gw := gwm (i := 1262) (by decide +kernel) (by decide +kernel)
theorem is_X6_firstError : Cond.selects RX6 yX6_firstError yX6_firstError ∈ gw := gwm (i := 1263) (by decide +kernel) (by decide +kernel)
theorem ml_L_130 : Cond.methodLink RL 130 yL_run ∈ gw := gwm (i := 910) (by decide +kernel) (by decide +kernel)
theorem st_L_run : Cond.static yL_run ∈ gw := gwm (i := 911) (by decide +kernel) (by decide +kernel)
theorem ml_L_132 : Cond.methodLink RL 132 yX6_run ∈ gw := gwm (i := 1281) (by decide +kernel) (by decide +kernel)
theorem kc_X6_run : Cond.code yX6_run cX6_run 7 (some .int) ∈ gw := gwm (i := 1284) (by decide +kernel) (by decide +kernel)
theorem ii_X6_run : Cond.instanceMethod yX6_run ∈ gw := gwm (i := 1282) (by decide +kernel) (by decide +kernel)
theorem is_X6_run : Cond.selects RX6 yX6_run yX6_run ∈ gw := gwm (i := 1283) (by decide +kernel) (by decide +kernel)
theorem ml_L_133 : Cond.methodLink RL 133 yX5_keep ∈ gw := gwm (i := 311) (by decide +kernel) (by decide +kernel)
theorem kc_X5_keep : Cond.code yX5_keep cX5_keep 1 (some .int) ∈ gw := gwm (i := 314) (by decide +kernel) (by decide +kernel)
theorem ii_X5_keep : Cond.instanceMethod yX5_keep ∈ gw := gwm (i := 312) (by decide +kernel) (by decide +kernel)
theorem is_X5_keep : Cond.selects RX5 yX5_keep yX5_keep ∈ gw := gwm (i := 313) (by decide +kernel) (by decide +kernel)
theorem ml_L_136 : Cond.methodLink RL 136 yX6_keep ∈ gw := gwm (i := 1067) (by decide +kernel) (by decide +kernel)
theorem kc_X6_keep : Cond.code yX6_keep cX6_keep 2 (some .int) ∈ gw := gwm (i := 1070) (by decide +kernel) (by decide +kernel)
theorem ii_X6_keep : Cond.instanceMethod yX6_keep ∈ gw := gwm (i := 1068) (by decide +kernel) (by decide +kernel)
theorem is_X6_keep : Cond.selects RX6 yX6_keep yX6_keep ∈ gw := gwm (i := 1069) (by decide +kernel) (by decide +kernel)
theorem ml_L_137 : Cond.methodLink RL 137 yL_goBack ∈ gw := gwm (i := 948) (by decide +kernel) (by decide +kernel)
theorem st_L_goBack : Cond.static yL_goBack ∈ gw := gwm (i := 949) (by decide +kernel) (by decide +kernel)
theorem ml_L_139 : Cond.methodLink RL 139 yX6_goBack ∈ gw := gwm (i := 1071) (by decide +kernel) (by decide +kernel)
theorem kc_X6_goBack : Cond.code yX6_goBack cX6_goBack 2 (some .int) ∈ gw := gwm (i := 1074) (by decide +kernel) (by decide +kernel)
theorem ii_X6_goBack : Cond.instanceMethod yX6_goBack ∈ gw := gwm (i := 1072) (by decide +kernel) (by decide +kernel)
theorem is_X6_goBack : Cond.selects RX6 yX6_goBack yX6_goBack ∈ gw := gwm (i := 1073) (by decide +kernel) (by decide +kernel)
theorem ml_L_140 : Cond.methodLink RL 140 yL_undo ∈ gw := gwm (i := 956) (by decide +kernel) (by decide +kernel)
theorem st_L_undo : Cond.static yL_undo ∈ gw := gwm (i := 957) (by decide +kernel) (by decide +kernel)
theorem ml_L_142 : Cond.methodLink RL 142 yX6_undo ∈ gw := gwm (i := 1063) (by decide +kernel) (by decide +kernel)
theorem kc_X6_undo : Cond.code yX6_undo cX6_undo 2 (some .int) ∈ gw := gwm (i := 1066) (by decide +kernel) (by decide +kernel)
theorem ii_X6_undo : Cond.instanceMethod yX6_undo ∈ gw := gwm (i := 1064) (by decide +kernel) (by decide +kernel)
theorem is_X6_undo : Cond.selects RX6 yX6_undo yX6_undo ∈ gw := gwm (i := 1065) (by decide +kernel) (by decide +kernel)
theorem ml_L_143 : Cond.methodLink RL 143 yL_slot ∈ gw := gwm (i := 964) (by decide +kernel) (by decide +kernel)
theorem st_L_slot : Cond.static yL_slot ∈ gw := gwm (i := 965) (by decide +kernel) (by decide +kernel)
theorem ml_L_145 : Cond.methodLink RL 145 yX6_slot ∈ gw := gwm (i := 1297) (by decide +kernel) (by decide +kernel)
theorem kc_X6_slot : Cond.code yX6_slot cX6_slot 3 (some .int) ∈ gw := gwm (i := 1300) (by decide +kernel) (by decide +kernel)
theorem ii_X6_slot : Cond.instanceMethod yX6_slot ∈ gw := gwm (i := 1298) (by decide +kernel) (by decide +kernel)
theorem is_X6_slot : Cond.selects RX6 yX6_slot yX6_slot ∈ gw := gwm (i := 1299) (by decide +kernel) (by decide +kernel)
theorem ml_L_146 : Cond.methodLink RL 146 yL_where ∈ gw := gwm (i := 972) (by decide +kernel) (by decide +kernel)
theorem st_L_where : Cond.static yL_where ∈ gw := gwm (i := 973) (by decide +kernel) (by decide +kernel)
theorem ml_L_148 : Cond.methodLink RL 148 yX6_where ∈ gw := gwm (i := 1305) (by decide +kernel) (by decide +kernel)
theorem kc_X6_where : Cond.code yX6_where cX6_where 3 (some .int) ∈ gw := gwm (i := 1308) (by decide +kernel) (by decide +kernel)
theorem ii_X6_where : Cond.instanceMethod yX6_where ∈ gw := gwm (i := 1306) (by decide +kernel) (by decide +kernel)
theorem is_X6_where : Cond.selects RX6 yX6_where yX6_where ∈ gw := gwm (i := 1307) (by decide +kernel) (by decide +kernel)
theorem ml_L_149 : Cond.methodLink RL 149 yL_lies ∈ gw := gwm (i := 980) (by decide +kernel) (by decide +kernel)
theorem st_L_lies : Cond.static yL_lies ∈ gw := gwm (i := 981) (by decide +kernel) (by decide +kernel)
theorem ml_L_151 : Cond.methodLink RL 151 yX6_lies ∈ gw := gwm (i := 1313) (by decide +kernel) (by decide +kernel)
theorem kc_X6_lies : Cond.code yX6_lies cX6_lies 3 (some .int) ∈ gw := gwm (i := 1316) (by decide +kernel) (by decide +kernel)
theorem ii_X6_lies : Cond.instanceMethod yX6_lies ∈ gw := gwm (i := 1314) (by decide +kernel) (by decide +kernel)
theorem is_X6_lies : Cond.selects RX6 yX6_lies yX6_lies ∈ gw := gwm (i := 1315) (by decide +kernel) (by decide +kernel)
theorem ml_L_152 : Cond.methodLink RL 152 yL_count ∈ gw := gwm (i := 988) (by decide +kernel) (by decide +kernel)
theorem st_L_count : Cond.static yL_count ∈ gw := gwm (i := 989) (by decide +kernel) (by decide +kernel)
theorem ml_L_154 : Cond.methodLink RL 154 yX6_count ∈ gw := gwm (i := 1317) (by decide +kernel) (by decide +kernel)
theorem kc_X6_count : Cond.code yX6_count cX6_count 2 (some .int) ∈ gw := gwm (i := 1320) (by decide +kernel) (by decide +kernel)
theorem ii_X6_count : Cond.instanceMethod yX6_count ∈ gw := gwm (i := 1318) (by decide +kernel) (by decide +kernel)
theorem is_X6_count : Cond.selects RX6 yX6_count yX6_count ∈ gw := gwm (i := 1319) (by decide +kernel) (by decide +kernel)
theorem ml_L_155 : Cond.methodLink RL 155 yL_setting ∈ gw := gwm (i := 996) (by decide +kernel) (by decide +kernel)
theorem st_L_setting : Cond.static yL_setting ∈ gw := gwm (i := 997) (by decide +kernel) (by decide +kernel)
theorem ml_L_157 : Cond.methodLink RL 157 yX6_setting ∈ gw := gwm (i := 1333) (by decide +kernel) (by decide +kernel)
theorem kc_X6_setting : Cond.code yX6_setting cX6_setting 2 (some .int) ∈ gw := gwm (i := 1336) (by decide +kernel) (by decide +kernel)
theorem ii_X6_setting : Cond.instanceMethod yX6_setting ∈ gw := gwm (i := 1334) (by decide +kernel) (by decide +kernel)
theorem is_X6_setting : Cond.selects RX6 yX6_setting yX6_setting ∈ gw := gwm (i := 1335) (by decide +kernel) (by decide +kernel)
theorem ml_L_158 : Cond.methodLink RL 158 yX5_why ∈ gw := gwm (i := 336) (by decide +kernel) (by decide +kernel)
theorem ml_L_161 : Cond.methodLink RL 161 yX6_why ∈ gw := gwm (i := 1337) (by decide +kernel) (by decide +kernel)
theorem kc_X6_why : Cond.code yX6_why cX6_why 1 (some .int) ∈ gw := gwm (i := 1340) (by decide +kernel) (by decide +kernel)
theorem ii_X6_why : Cond.instanceMethod yX6_why ∈ gw := gwm (i := 1338) (by decide +kernel) (by decide +kernel)
theorem is_X6_why : Cond.selects RX6 yX6_why yX6_why ∈ gw := gwm (i := 1339) (by decide +kernel) (by decide +kernel)
theorem ml_L_162 : Cond.methodLink RL 162 yL_sweep ∈ gw := gwm (i := 1003) (by decide +kernel) (by decide +kernel)
theorem st_L_sweep : Cond.static yL_sweep ∈ gw := gwm (i := 1004) (by decide +kernel) (by decide +kernel)
theorem ml_L_164 : Cond.methodLink RL 164 yX6_sweep ∈ gw := gwm (i := 1341) (by decide +kernel) (by decide +kernel)
theorem kc_X6_sweep : Cond.code yX6_sweep cX6_sweep 2 (some .int) ∈ gw := gwm (i := 1344) (by decide +kernel) (by decide +kernel)
theorem ii_X6_sweep : Cond.instanceMethod yX6_sweep ∈ gw := gwm (i := 1342) (by decide +kernel) (by decide +kernel)
theorem is_X6_sweep : Cond.selects RX6 yX6_sweep yX6_sweep ∈ gw := gwm (i := 1343) (by decide +kernel) (by decide +kernel)
theorem ml_L_165 : Cond.methodLink RL 165 yL_ifStarted ∈ gw := gwm (i := 1011) (by decide +kernel) (by decide +kernel)
theorem st_L_ifStarted : Cond.static yL_ifStarted ∈ gw := gwm (i := 1012) (by decide +kernel) (by decide +kernel)
theorem ml_L_167 : Cond.methodLink RL 167 yX6_ifStarted ∈ gw := gwm (i := 1357) (by decide +kernel) (by decide +kernel)
theorem kc_X6_ifStarted : Cond.code yX6_ifStarted cX6_ifStarted 3 (some .int) ∈ gw := gwm (i := 1360) (by decide +kernel) (by decide +kernel)
theorem ii_X6_ifStarted : Cond.instanceMethod yX6_ifStarted ∈ gw := gwm (i := 1358) (by decide +kernel) (by decide +kernel)
theorem is_X6_ifStarted : Cond.selects RX6 yX6_ifStarted yX6_ifStarted ∈ gw := gwm (i := 1359) (by decide +kernel) (by decide +kernel)
theorem ml_L_168 : Cond.methodLink RL 168 yX5_bestChange ∈ gw := gwm (i := 356) (by decide +kernel) (by decide +kernel)
theorem ml_L_171 : Cond.methodLink RL 171 yX6_bestChange ∈ gw := gwm (i := 1365) (by decide +kernel) (by decide +kernel)
theorem kc_X6_bestChange : Cond.code yX6_bestChange cX6_bestChange 1 (some .int) ∈ gw := gwm (i := 1368) (by decide +kernel) (by decide +kernel)
theorem ii_X6_bestChange : Cond.instanceMethod yX6_bestChange ∈ gw := gwm (i := 1366) (by decide +kernel) (by decide +kernel)
theorem is_X6_bestChange : Cond.selects RX6 yX6_bestChange yX6_bestChange ∈ gw := gwm (i := 1367) (by decide +kernel) (by decide +kernel)
theorem ml_L_172 : Cond.methodLink RL 172 yX5_wideShare ∈ gw := gwm (i := 367) (by decide +kernel) (by decide +kernel)
theorem ml_L_176 : Cond.methodLink RL 176 yX6_wideShare ∈ gw := gwm (i := 1381) (by decide +kernel) (by decide +kernel)
theorem kc_X6_wideShare : Cond.code yX6_wideShare cX6_wideShare 1 (some .double) ∈ gw := gwm (i := 1384) (by decide +kernel) (by decide +kernel)
theorem ii_X6_wideShare : Cond.instanceMethod yX6_wideShare ∈ gw := gwm (i := 1382) (by decide +kernel) (by decide +kernel)
theorem is_X6_wideShare : Cond.selects RX6 yX6_wideShare yX6_wideShare ∈ gw := gwm (i := 1383) (by decide +kernel) (by decide +kernel)
theorem ml_L_177 : Cond.methodLink RL 177 yX5_meanTicks ∈ gw := gwm (i := 371) (by decide +kernel) (by decide +kernel)
theorem ml_L_181 : Cond.methodLink RL 181 yX6_meanTicks ∈ gw := gwm (i := 1389) (by decide +kernel) (by decide +kernel)
theorem kc_X6_meanTicks : Cond.code yX6_meanTicks cX6_meanTicks 1 (some .float) ∈ gw := gwm (i := 1392) (by decide +kernel) (by decide +kernel)
theorem ii_X6_meanTicks : Cond.instanceMethod yX6_meanTicks ∈ gw := gwm (i := 1390) (by decide +kernel) (by decide +kernel)
theorem is_X6_meanTicks : Cond.selects RX6 yX6_meanTicks yX6_meanTicks ∈ gw := gwm (i := 1391) (by decide +kernel) (by decide +kernel)
theorem ml_L_182 : Cond.methodLink RL 182 yX5_digest ∈ gw := gwm (i := 375) (by decide +kernel) (by decide +kernel)
theorem kc_X5_digest : Cond.code yX5_digest cX5_digest 4 (some .long) ∈ gw := gwm (i := 378) (by decide +kernel) (by decide +kernel)
theorem ii_X5_digest : Cond.instanceMethod yX5_digest ∈ gw := gwm (i := 376) (by decide +kernel) (by decide +kernel)
theorem is_X5_digest : Cond.selects RX5 yX5_digest yX5_digest ∈ gw := gwm (i := 377) (by decide +kernel) (by decide +kernel)
theorem ml_L_186 : Cond.methodLink RL 186 yX6_digest ∈ gw := gwm (i := 1397) (by decide +kernel) (by decide +kernel)
theorem kc_X6_digest : Cond.code yX6_digest cX6_digest 5 (some .long) ∈ gw := gwm (i := 1400) (by decide +kernel) (by decide +kernel)
theorem ii_X6_digest : Cond.instanceMethod yX6_digest ∈ gw := gwm (i := 1398) (by decide +kernel) (by decide +kernel)
theorem is_X6_digest : Cond.selects RX6 yX6_digest yX6_digest ∈ gw := gwm (i := 1399) (by decide +kernel) (by decide +kernel)
theorem k_X6_plug : KY yX6_plug cX6_plug 6 (some .int) 4 := ⟨kc_X6_plug, ki_StickPairsModel, by decide, by decide +kernel⟩
theorem k_X6_thrown : KY yX6_thrown cX6_thrown 1 (some .int) 0 := ⟨kc_X6_thrown, ki_StickPairsModel, by decide, by decide +kernel⟩
theorem k_X6_pull : KY yX6_pull cX6_pull 3 (some .int) 1 := ⟨kc_X6_pull, ki_StickPairsModel, by decide, by decide +kernel⟩
theorem k_X6_fail : KY yX6_fail cX6_fail 3 (some .int) 1 := ⟨kc_X6_fail, ki_StickPairsModel, by decide, by decide +kernel⟩
theorem k_X6_start : KY yX6_start cX6_start 1 (some .int) 0 := ⟨kc_X6_start, ki_StickPairsModel, by decide, by decide +kernel⟩
theorem k_X6_stop : KY yX6_stop cX6_stop 2 (some .int) 0 := ⟨kc_X6_stop, ki_StickPairsModel, by decide, by decide +kernel⟩
theorem k_X6_write : KY yX6_write cX6_write 4 (some .int) 2 := ⟨kc_X6_write, ki_StickPairsModel, by decide, by decide +kernel⟩
theorem k_X6_read : KY yX6_read cX6_read 2 (some .int) 1 := ⟨kc_X6_read, ki_StickPairsModel, by decide, by decide +kernel⟩
theorem k_X6_rest : KY yX6_rest cX6_rest 2 (some .int) 1 := ⟨kc_X6_rest, ki_StickPairsModel, by decide, by decide +kernel⟩
theorem k_X6_set : KY yX6_set cX6_set 4 (some .int) 2 := ⟨kc_X6_set, ki_StickPairsModel, by decide, by decide +kernel⟩
theorem k_X6_append : KY yX6_append cX6_append 2 (some .int) 1 := ⟨kc_X6_append, ki_StickPairsModel, by decide, by decide +kernel⟩
theorem k_X5_clearBuffer : KY yX5_clearBuffer cX5_clearBuffer 2 (some .int) 0 := ⟨kc_X5_clearBuffer, ki_StickPairs, by decide, by decide +kernel⟩
theorem k_X6_clearBuffer : KY yX6_clearBuffer cX6_clearBuffer 2 (some .int) 0 := ⟨kc_X6_clearBuffer, ki_StickPairsModel, by decide, by decide +kernel⟩
theorem k_X5_firstError : KY yX5_firstError cX5_firstError 1 (some .int) 0 := ⟨kc_X5_firstError, ki_StickPairs, by decide, by decide +kernel⟩
theorem k_X6_firstError : KY yX6_firstError cX6_firstError 2 (some .int) 0 := ⟨kc_X6_firstError, ki_StickPairsModel, by decide, by decide +kernel⟩
theorem k_X6_run : KY yX6_run cX6_run 7 (some .int) 0 := ⟨kc_X6_run, ki_StickPairsModel, by decide, by decide +kernel⟩
theorem k_X5_keep : KY yX5_keep cX5_keep 1 (some .int) 0 := ⟨kc_X5_keep, ki_StickPairs, by decide, by decide +kernel⟩
theorem k_X6_keep : KY yX6_keep cX6_keep 2 (some .int) 0 := ⟨kc_X6_keep, ki_StickPairsModel, by decide, by decide +kernel⟩
theorem k_X6_goBack : KY yX6_goBack cX6_goBack 2 (some .int) 0 := ⟨kc_X6_goBack, ki_StickPairsModel, by decide, by decide +kernel⟩
theorem k_X6_undo : KY yX6_undo cX6_undo 2 (some .int) 0 := ⟨kc_X6_undo, ki_StickPairsModel, by decide, by decide +kernel⟩
theorem k_X6_slot : KY yX6_slot cX6_slot 3 (some .int) 2 := ⟨kc_X6_slot, ki_StickPairsModel, by decide, by decide +kernel⟩
theorem k_X6_where : KY yX6_where cX6_where 3 (some .int) 2 := ⟨kc_X6_where, ki_StickPairsModel, by decide, by decide +kernel⟩
theorem k_X6_lies : KY yX6_lies cX6_lies 3 (some .int) 2 := ⟨kc_X6_lies, ki_StickPairsModel, by decide, by decide +kernel⟩
theorem k_X6_count : KY yX6_count cX6_count 2 (some .int) 1 := ⟨kc_X6_count, ki_StickPairsModel, by decide, by decide +kernel⟩
theorem k_X6_setting : KY yX6_setting cX6_setting 2 (some .int) 1 := ⟨kc_X6_setting, ki_StickPairsModel, by decide, by decide +kernel⟩
theorem k_X6_why : KY yX6_why cX6_why 1 (some .int) 0 := ⟨kc_X6_why, ki_StickPairsModel, by decide, by decide +kernel⟩
theorem k_X6_sweep : KY yX6_sweep cX6_sweep 2 (some .int) 1 := ⟨kc_X6_sweep, ki_StickPairsModel, by decide, by decide +kernel⟩
theorem k_X6_ifStarted : KY yX6_ifStarted cX6_ifStarted 3 (some .int) 2 := ⟨kc_X6_ifStarted, ki_StickPairsModel, by decide, by decide +kernel⟩
theorem k_X6_bestChange : KY yX6_bestChange cX6_bestChange 1 (some .int) 0 := ⟨kc_X6_bestChange, ki_StickPairsModel, by decide, by decide +kernel⟩
theorem k_X6_wideShare : KY yX6_wideShare cX6_wideShare 1 (some .double) 0 := ⟨kc_X6_wideShare, ki_StickPairsModel, by decide, by decide +kernel⟩
theorem k_X6_meanTicks : KY yX6_meanTicks cX6_meanTicks 1 (some .float) 0 := ⟨kc_X6_meanTicks, ki_StickPairsModel, by decide, by decide +kernel⟩
theorem k_X5_digest : KY yX5_digest cX5_digest 4 (some .long) 0 := ⟨kc_X5_digest, ki_StickPairs, by decide, by decide +kernel⟩
theorem k_X6_digest : KY yX6_digest cX6_digest 5 (some .long) 0 := ⟨kc_X6_digest, ki_StickPairsModel, by decide, by decide +kernel⟩
def Scr (G : GG) (X : WX) (b Ln : Nat) (sc : Nat → Int32) : Prop := va_X b Ln sc (xs X) (xs X).heap ∧ b < (xs X).heap.size ∧ ¬ AA G (xs X).heap.size b
def KYW (y : MethodName) (bytes : ByteArray) (maxL : Nat) (ret : Option FieldType) (hh : List (Nat × Nat × Nat × Nat)) (n : Nat) : Prop :=
  Cond.codeWith y bytes maxL ret hh ∈ gw ∧ Cond.initialized y.cls ∈ gw ∧ maxL ≤ 12 ∧ (y.cls ≠ "java/lang/invoke/MethodHandle" ∧ y.cls ≠ "java/lang/invoke/VarHandle" ∧ (parseMethodDescriptor y.desc).map (fun d => d.parameters.length) = some n)
abbrev LL (G : GG) (b : Nat) (i : Int32) : List (Nat × Value) := [(4, .int i), (3, .ref (G.2.2 120)), (2, .ref (G.2.2 114)), (1, .ref (G.2.2 0)), (0, .ref b)]
section
variable {ρ : Type} {G : GG} {sa : Nat → Nat} {nL : Nat} {X : WX} {Q : ρ → State → Prop} {sp : Option ρ} {V V1 V2 : VA} {L : List (Nat × Value)} {st : List Value} {own : String} {cc : ByteArray} {d d1 : Nat} {c0 : VC} {w : VR} {b Ln : Nat} {sc : Nat → Int32}
variable {y : MethodName} {bytes : ByteArray} {maxL index n : Nat} {ret : Option FieldType} {As : List Value}
theorem j_sld (C : Cx G nL X own cc d) (hS0 : Scr G X b Ln sc) {i x : Int32} (pc : Nat) (hr : ard Ln sc i = some x) (hd : decode cc pc = .ok (.iaload, 1)) (k : JS G nL X Q sp V (pc + 1) L (.int x :: st)) : JS G nL X Q sp V pc L (.int i :: .ref b :: st) := by
  intro x0 h0 H locs ls hP hS hl
  obtain ⟨hin, rfl⟩ := ard_in hr
  exact va_sld C.1 C.2.1 hS0.1 hS0.2.1 hS0.2.2 hS hin hd (k x0 h0 H locs ls hP hS hl)
theorem j_slen (C : Cx G nL X own cc d) (hS0 : Scr G X b Ln sc) (pc : Nat) (hd : decode cc pc = .ok (.arraylength, 1)) (k : JS G nL X Q sp V (pc + 1) L (.int (Int32.ofNat Ln) :: st)) : JS G nL X Q sp V pc L (.ref b :: st) := by
  intro x0 h0 H locs ls hP hS hl
  exact va_slen C.1 C.2.1 hS0.1 hS0.2.1 hS0.2.2 hS hd (k x0 h0 H locs ls hP hS hl)
theorem j_lcmp (C : Cx G nL X own cc d) {x y : Int64} (pc : Nat) (hd : decode cc pc = .ok (.lcmp, 1)) (k : JS G nL X Q sp V (pc + 1) L (.int (lg_cmp x y) :: st)) : JS G nL X Q sp V pc L (.long y :: .long x :: st) :=
  fun x0 h0 H locs ls hP hS hl => W.lcmp C.1 C.2.1 hd (k x0 h0 H locs ls hP hS hl)
theorem j_old (C : Cx G nL X own cc d) {c : VC} {mo : VM} {f : Nat → Int64} (pc : Nat) (hd : decode cc pc = .ok (.laload, 1)) (kk : JS G nL X Q sp (c, (mo, f)) (pc + 1) L (.long (f 0) :: st)) : JS G nL X Q sp (c, (mo, f)) pc L (.int 0 :: .ref (G.2.2 120) :: st) := by
  intro x0 h0 H locs ls hP hS hl
  exact va_lald (f := f) C.1 C.2.1 C.2.2.2.2.2.1.1 hP 120 3 (by rw [wld_at G _ (by omega)]; rfl) rfl (by unfold vp_in; decide) hd (kk x0 h0 H locs ls hP hS hl)
theorem j_drop {n : Nat} {pc : Nat} {A : Option ρ} {c : Prop} [Decidable c] (h : c → JS G nL X Q A V pc L st) : JS G nL X Q (if c then A else none) V pc L st := by
  by_cases e : c
  · rw [if_pos e]; exact h e
  · rw [if_neg e]; exact j_none
theorem j_xup {pc : Nat} (h : JS G nL (xup X) Q sp V pc L st) : JS G nL X Q sp V pc L st :=
  fun x0 h0 H locs ls hP hS hl => W.widen (Nat.le_succ _) (Nat.le_add_right _ _) (h x0 h0 H locs ls hP hS hl)
theorem j_callW (C : Cx G nL X own cc d) (hX : XK G sa (xs X).heap.size (xs X) (xs X).heap) (hc1 : xk X + 1 ≤ (xR X).cells) (hc2 : xz X + 6 ≤ (xR X).slots) {hh : List (Nat × Nat × Nat × Nat)} (hK : KYW y bytes maxL ret hh n) {rv : Option Value} (pc : Nat) (hct : CtW (xl X) y bytes maxL ret hh d1 As G sa V rv V1) (hlink : Cond.methodLink own index y ∈ gw) (hi : Cond.static y ∈ gw) (hd : decode cc pc = .ok (.invokestatic index, 3)) (hdd : d1 + 1 ≤ d) (hn : As.length = n) (hst : (st.map fun v => v.category).sum ≤ 8)
    (k : JS G nL (xup X) Q sp V1 (pc + 3) L (rv.toList ++ st)) {st0 : List Value} (h0 : st0 = As.reverse ++ st) : JS G nL X Q sp V pc L st0 := by
  subst h0
  intro x0 h0 H locs ls hP hS hl T hT X9
  have cw : vx_CSW (xR X) (xs X) (xa X) own index y bytes maxL ret hh (Cond.codeWith y bytes maxL ret hh :: gw) (RMX d1) 1 6 n := by
    refine vx_cwSW n C.2.2.2.2.1 (gw_in (fun w hw => ?_)) rfl rfl rfl hK.2.2.2 ⟨?_, ?_⟩
    · rcases List.mem_append.mp hw with h | h
      · rcases List.mem_cons.mp h with rfl | h
        · exact hlink
        · rcases List.mem_cons.mp h with rfl | h
          · exact hi
          · rcases List.mem_cons.mp h with rfl | h
            · exact hK.2.1
            · cases h
      · rcases List.mem_cons.mp h with rfl | h
        · exact hK.1
        · exact h
    · have := C.2.2.2.2.2.2.2.2.1
      show d1 + 1 ≤ _
      omega
    · have h1 := C.2.2.2.2.2.2.2.2.2.1
      have h2 := hK.2.2.1
      show 8 + (maxL + 11) + 31 * d1 ≤ _
      omega
  obtain ⟨v, st₀, t, T', L9, hh9, X', hL, e1, e2, ⟨⟨hv, hp⟩, hz, hk⟩, st9⟩ := vx_runSW (rest := st) (g := F0 (xm X) pc ls (As.reverse ++ st)) ⟨C.1, C.2.1, C.2.2.1, C.2.2.2.1, C.2.2.2.2.1⟩ (hct H.size) cw ⟨fb_PcX _ _, pcx_at C hX hP hS⟩ rfl hn hl.1 rfl (lv_room hst) hd ⟨hc1, hc2⟩ T hT X9
  cases hv
  rw [hh9] at hz hk
  obtain ⟨t2, a1, b1⟩ := k x0 h0 t.heap (locs ++ L9) ls hp (s_up hS hz hk hL) hl T' e1 X'
  exact ⟨t2, st9 t2 a1, b1⟩
end
section
variable {ρ : Type} {G : GG} {nL : Nat} {X : WX} {Q : ρ → State → Prop} {sp : Option ρ} {V : VA} {L : List (Nat × Value)} {st : List Value} {own : String} {cc : ByteArray} {d : Nat}
theorem j_drop2 {pc : Nat} {A : Option ρ} {c : Prop} [Decidable c] (h : c → JS G nL X Q A V pc L st) : JS G nL X Q (if c then A else none) V pc L st := by
  by_cases e : c
  · rw [if_pos e]; exact h e
  · rw [if_neg e]; exact j_none
theorem j_icmp_eq1 (C : Cx G nL X own cc d) {x y : Int32} {off : Int} (pc tgt : Nat) (e : x = y) (hd : decode cc pc = .ok (.if_icmp .eq off, 3)) (ht : (pc : Int) + off = (tgt : Int)) (k : JS G nL X Q sp V tgt L st) : JS G nL X Q sp V pc L (.int y :: .int x :: st) := by
  have h := j_icmp_eq (A := sp) (B := sp) C (x := x) (y := y) pc tgt hd ht (fun _ => k) (fun z => absurd e z)
  rwa [if_pos e] at h
theorem j_if_ne0 (C : Cx G nL X own cc d) {x : Int32} {off : Int} (pc tgt : Nat) (e : x = 0) (hd : decode cc pc = .ok (.ifCond .ne off, 3)) (ht : (pc : Int) + off = (tgt : Int)) (k : JS G nL X Q sp V (pc + 3) L st) : JS G nL X Q sp V pc L (.int x :: st) := by
  have h := j_if_ne (A := sp) (B := sp) C (x := x) pc tgt hd ht (fun _ => k) (fun z => absurd e z)
  rwa [if_pos e] at h
theorem j_if_ne1 (C : Cx G nL X own cc d) {x : Int32} {off : Int} (pc tgt : Nat) (e : ¬ x = 0) (hd : decode cc pc = .ok (.ifCond .ne off, 3)) (ht : (pc : Int) + off = (tgt : Int)) (k : JS G nL X Q sp V tgt L st) : JS G nL X Q sp V pc L (.int x :: st) := by
  have h := j_if_ne (A := sp) (B := sp) C (x := x) pc tgt hd ht (fun z => absurd z e) (fun _ => k)
  rwa [if_neg e] at h
theorem j_if_eq0 (C : Cx G nL X own cc d) {x : Int32} {off : Int} (pc tgt : Nat) (e : x = 0) (hd : decode cc pc = .ok (.ifCond .eq off, 3)) (ht : (pc : Int) + off = (tgt : Int)) (k : JS G nL X Q sp V tgt L st) : JS G nL X Q sp V pc L (.int x :: st) := by
  have h := j_if_eq (A := sp) (B := sp) C (x := x) pc tgt hd ht (fun _ => k) (fun z => absurd e z)
  rwa [if_pos e] at h
theorem j_lc0 (C : Cx G nL X own cc d) {x y : Int64} {off : Int} (pc tgt : Nat) (e : x = y) (hd : decode cc pc = .ok (.ifCond .eq off, 3)) (ht : (pc : Int) + off = (tgt : Int)) (k : JS G nL X Q sp V tgt L st) : JS G nL X Q sp V pc L (.int (lg_cmp x y) :: st) :=
  j_if_eq0 C pc tgt ((lg_cmp_eq x y).mpr e) hd ht k
end
theorem kcw_L_plug : Cond.codeWith yL_plug cL_plug 7 (some .int) [(0, 14, 17, 13), (0, 14, 21, 15), (0, 14, 25, 17)] ∈ gw := gwm (i := 622) (by decide +kernel) (by decide +kernel)
theorem kw_L_plug : KYW yL_plug cL_plug 7 (some .int) [(0, 14, 17, 13), (0, 14, 21, 15), (0, 14, 25, 17)] 6 := ⟨kcw_L_plug, ki_StickPairsLaw, by decide, by decide +kernel⟩
theorem kcw_L_pull : Cond.codeWith yL_pull cL_pull 4 (some .int) [(0, 9, 12, 13), (0, 9, 15, 17)] ∈ gw := gwm (i := 754) (by decide +kernel) (by decide +kernel)
theorem kw_L_pull : KYW yL_pull cL_pull 4 (some .int) [(0, 9, 12, 13), (0, 9, 15, 17)] 3 := ⟨kcw_L_pull, ki_StickPairsLaw, by decide, by decide +kernel⟩
theorem kcw_L_fail : Cond.codeWith yL_fail cL_fail 4 (some .int) [(0, 9, 12, 13), (0, 9, 15, 17)] ∈ gw := gwm (i := 776) (by decide +kernel) (by decide +kernel)
theorem kw_L_fail : KYW yL_fail cL_fail 4 (some .int) [(0, 9, 12, 13), (0, 9, 15, 17)] 3 := ⟨kcw_L_fail, ki_StickPairsLaw, by decide, by decide +kernel⟩
theorem kcw_L_start : Cond.codeWith yL_start cL_start 3 (some .int) [(0, 8, 11, 17)] ∈ gw := gwm (i := 789) (by decide +kernel) (by decide +kernel)
theorem kw_L_start : KYW yL_start cL_start 3 (some .int) [(0, 8, 11, 17)] 2 := ⟨kcw_L_start, ki_StickPairsLaw, by decide, by decide +kernel⟩
theorem kcw_L_stop : Cond.codeWith yL_stop cL_stop 3 (some .int) [(0, 8, 11, 17)] ∈ gw := gwm (i := 811) (by decide +kernel) (by decide +kernel)
theorem kw_L_stop : KYW yL_stop cL_stop 3 (some .int) [(0, 8, 11, 17)] 2 := ⟨kcw_L_stop, ki_StickPairsLaw, by decide, by decide +kernel⟩
theorem kcw_L_write : Cond.codeWith yL_write cL_write 5 (some .int) [(0, 10, 13, 13), (0, 10, 17, 15), (0, 10, 21, 17)] ∈ gw := gwm (i := 836) (by decide +kernel) (by decide +kernel)
theorem kw_L_write : KYW yL_write cL_write 5 (some .int) [(0, 10, 13, 13), (0, 10, 17, 15), (0, 10, 21, 17)] 4 := ⟨kcw_L_write, ki_StickPairsLaw, by decide, by decide +kernel⟩
theorem kcw_L_read : Cond.codeWith yL_read cL_read 4 (some .int) [(0, 9, 12, 13), (0, 9, 15, 17)] ∈ gw := gwm (i := 851) (by decide +kernel) (by decide +kernel)
theorem kw_L_read : KYW yL_read cL_read 4 (some .int) [(0, 9, 12, 13), (0, 9, 15, 17)] 3 := ⟨kcw_L_read, ki_StickPairsLaw, by decide, by decide +kernel⟩
theorem kcw_L_rest : Cond.codeWith yL_rest cL_rest 4 (some .int) [(0, 9, 12, 15)] ∈ gw := gwm (i := 872) (by decide +kernel) (by decide +kernel)
theorem kw_L_rest : KYW yL_rest cL_rest 4 (some .int) [(0, 9, 12, 15)] 3 := ⟨kcw_L_rest, ki_StickPairsLaw, by decide, by decide +kernel⟩
theorem kcw_L_set : Cond.codeWith yL_set cL_set 5 (some .int) [(0, 10, 13, 13), (0, 10, 17, 15)] ∈ gw := gwm (i := 881) (by decide +kernel) (by decide +kernel)
theorem kw_L_set : KYW yL_set cL_set 5 (some .int) [(0, 10, 13, 13), (0, 10, 17, 15)] 4 := ⟨kcw_L_set, ki_StickPairsLaw, by decide, by decide +kernel⟩
theorem kcw_L_append : Cond.codeWith yL_append cL_append 4 (some .int) [(0, 9, 12, 15), (0, 9, 15, 17)] ∈ gw := gwm (i := 895) (by decide +kernel) (by decide +kernel)
theorem kw_L_append : KYW yL_append cL_append 4 (some .int) [(0, 9, 12, 15), (0, 9, 15, 17)] 3 := ⟨kcw_L_append, ki_StickPairsLaw, by decide, by decide +kernel⟩
theorem kcw_L_run : Cond.codeWith yL_run cL_run 3 (some .int) [(0, 8, 11, 15)] ∈ gw := gwm (i := 912) (by decide +kernel) (by decide +kernel)
theorem kw_L_run : KYW yL_run cL_run 3 (some .int) [(0, 8, 11, 15)] 2 := ⟨kcw_L_run, ki_StickPairsLaw, by decide, by decide +kernel⟩
theorem kcw_L_goBack : Cond.codeWith yL_goBack cL_goBack 3 (some .int) [(0, 8, 11, 17)] ∈ gw := gwm (i := 950) (by decide +kernel) (by decide +kernel)
theorem kw_L_goBack : KYW yL_goBack cL_goBack 3 (some .int) [(0, 8, 11, 17)] 2 := ⟨kcw_L_goBack, ki_StickPairsLaw, by decide, by decide +kernel⟩
theorem kcw_L_undo : Cond.codeWith yL_undo cL_undo 3 (some .int) [(0, 8, 11, 17)] ∈ gw := gwm (i := 958) (by decide +kernel) (by decide +kernel)
theorem kw_L_undo : KYW yL_undo cL_undo 3 (some .int) [(0, 8, 11, 17)] 2 := ⟨kcw_L_undo, ki_StickPairsLaw, by decide, by decide +kernel⟩
theorem kcw_L_slot : Cond.codeWith yL_slot cL_slot 5 (some .int) [(0, 10, 13, 13), (0, 10, 17, 15)] ∈ gw := gwm (i := 966) (by decide +kernel) (by decide +kernel)
theorem kw_L_slot : KYW yL_slot cL_slot 5 (some .int) [(0, 10, 13, 13), (0, 10, 17, 15)] 4 := ⟨kcw_L_slot, ki_StickPairsLaw, by decide, by decide +kernel⟩
theorem kcw_L_where : Cond.codeWith yL_where cL_where 5 (some .int) [(0, 10, 13, 13), (0, 10, 17, 15)] ∈ gw := gwm (i := 974) (by decide +kernel) (by decide +kernel)
theorem kw_L_where : KYW yL_where cL_where 5 (some .int) [(0, 10, 13, 13), (0, 10, 17, 15)] 4 := ⟨kcw_L_where, ki_StickPairsLaw, by decide, by decide +kernel⟩
theorem kcw_L_lies : Cond.codeWith yL_lies cL_lies 5 (some .int) [(0, 10, 13, 13)] ∈ gw := gwm (i := 982) (by decide +kernel) (by decide +kernel)
theorem kw_L_lies : KYW yL_lies cL_lies 5 (some .int) [(0, 10, 13, 13)] 4 := ⟨kcw_L_lies, ki_StickPairsLaw, by decide, by decide +kernel⟩
theorem kcw_L_count : Cond.codeWith yL_count cL_count 4 (some .int) [(0, 9, 12, 15)] ∈ gw := gwm (i := 990) (by decide +kernel) (by decide +kernel)
theorem kw_L_count : KYW yL_count cL_count 4 (some .int) [(0, 9, 12, 15)] 3 := ⟨kcw_L_count, ki_StickPairsLaw, by decide, by decide +kernel⟩
theorem kcw_L_setting : Cond.codeWith yL_setting cL_setting 4 (some .int) [(0, 9, 12, 13)] ∈ gw := gwm (i := 998) (by decide +kernel) (by decide +kernel)
theorem kw_L_setting : KYW yL_setting cL_setting 4 (some .int) [(0, 9, 12, 13)] 3 := ⟨kcw_L_setting, ki_StickPairsLaw, by decide, by decide +kernel⟩
theorem kcw_L_sweep : Cond.codeWith yL_sweep cL_sweep 4 (some .int) [(0, 9, 12, 15)] ∈ gw := gwm (i := 1005) (by decide +kernel) (by decide +kernel)
theorem kw_L_sweep : KYW yL_sweep cL_sweep 4 (some .int) [(0, 9, 12, 15)] 3 := ⟨kcw_L_sweep, ki_StickPairsLaw, by decide, by decide +kernel⟩
theorem kcw_L_ifStarted : Cond.codeWith yL_ifStarted cL_ifStarted 5 (some .int) [(0, 10, 13, 15)] ∈ gw := gwm (i := 1013) (by decide +kernel) (by decide +kernel)
theorem kw_L_ifStarted : KYW yL_ifStarted cL_ifStarted 5 (some .int) [(0, 10, 13, 15)] 4 := ⟨kcw_L_ifStarted, ki_StickPairsLaw, by decide, by decide +kernel⟩
/-- L_plug -/
def g_0 (Ln : Nat) (sc : Nat → Int32) (i : Int32) (v : VA) (K : VA → Option Unit) : Option Unit :=
  (ard Ln sc (i + 1)).bind fun a1 =>
  (ard Ln sc (i + 2)).bind fun a2 =>
  (ard Ln sc (i + 3)).bind fun a3 =>
  (ard Ln sc (i + 4)).bind fun a4 =>
  (f_L_plug v.1 v.2.2 a1 a2 a3 a4).bind fun r =>
  (f_X6_plug v.2.1 a1 a2 a3 a4).bind fun q =>
  (f_X6_thrown q.2).bind fun t =>
  if t = r.1 then (
  if r.1 = 0 then (if r.2.2 0 = q.1.toInt64 then K (r.2.1, (q.2, r.2.2)) else none) else K (r.2.1, (q.2, r.2.2))) else none
set_option maxRecDepth 100000 in
set_option maxHeartbeats 4000000 in
theorem wg_0 {G : GG} {sa : Nat → Nat} {X : WX} {Q : Unit → State → Prop} {b Ln : Nat} {sc : Nat → Int32} (C : Cx G 9 X RL cL_law 12) (hX : XK G sa (xs X).heap.size (xs X) (xs X).heap) (hS0 : Scr G X b Ln sc) (hc1 : xk X + 1 ≤ (xR X).cells) (hc2 : xz X + 6 ≤ (xR X).slots) (hl : (xl X).stackTraces = false) (i : Int32) (v : VA) (K : VA → Option Unit) (kk : ∀ v, JS G 9 (xup X) Q (K v) v 1495 (LL G b i) []) : JS G 9 X Q (g_0 Ln sc i v K) v 164 (LL G b i) [] := by
  unfold g_0
  refine j_V (V' := (v.1, (v.2.1, v.2.2))) rfl ?_
  refine j_aload_n C 164 3 rfl dL_law_164 ?_
  refine j_aload_n C 165 4 rfl dL_law_165 ?_
  refine j_iload C 166 0 rfl dL_law_166 ?_
  refine j_iconst (v := 1) C 168 dL_law_168 rfl ?_
  refine j_iadd C 169 dL_law_169 ?_
  refine j_bind (fun a1 h1 => ?_)
  refine j_sld C hS0 170 h1 dL_law_170 ?_
  refine j_aload_n C 171 4 rfl dL_law_171 ?_
  refine j_iload C 172 0 rfl dL_law_172 ?_
  refine j_iconst (v := 2) C 174 dL_law_174 rfl ?_
  refine j_iadd C 175 dL_law_175 ?_
  refine j_bind (fun a2 h2 => ?_)
  refine j_sld C hS0 176 h2 dL_law_176 ?_
  refine j_aload_n C 177 4 rfl dL_law_177 ?_
  refine j_iload C 178 0 rfl dL_law_178 ?_
  refine j_iconst (v := 3) C 180 dL_law_180 rfl ?_
  refine j_iadd C 181 dL_law_181 ?_
  refine j_bind (fun a3 h3 => ?_)
  refine j_sld C hS0 182 h3 dL_law_182 ?_
  refine j_aload_n C 183 4 rfl dL_law_183 ?_
  refine j_iload C 184 0 rfl dL_law_184 ?_
  refine j_iconst (v := 4) C 186 dL_law_186 rfl ?_
  refine j_iadd C 187 dL_law_187 ?_
  refine j_bind (fun a4 h4 => ?_)
  refine j_sld C hS0 188 h4 dL_law_188 ?_
  refine j_aload_n C 189 1 rfl dL_law_189 ?_
  refine j_bind (fun r hr => ?_)
  refine j_callW (As := [.ref (G.2.2 0), .int a1, .int a2, .int a3, .int a4, .ref (G.2.2 120)]) (st := []) C hX hc1 hc2 kw_L_plug 190 (c_L_plug C.2.2.2.2.2.2.1 hl _ _ _ _ _ _ _ hr) ml_L_83 st_L_plug dL_law_190 (by decide) rfl (Nat.le_of_ble_eq_true rfl) ?_ rfl
  have C1 := C.up hc1 hc2
  refine j_V (V' := (r.2.1, (v.2.1, r.2.2))) rfl ?_
  refine j_istore (L1 := [(5, .int r.1), (4, .int i), (3, .ref (G.2.2 120)), (2, .ref (G.2.2 114)), (1, .ref (G.2.2 0)), (0, .ref b)]) C1 193 dL_law_193 (by decide) rfl ?_
  refine j_aload_n C1 195 3 rfl dL_law_195 ?_
  refine j_aload_n C1 196 5 rfl dL_law_196 ?_
  refine j_iload C1 197 1 rfl dL_law_197 ?_
  refine j_iconst (v := 1) C1 199 dL_law_199 rfl ?_
  refine j_iadd C1 200 dL_law_200 ?_
  refine j_sld C1 hS0 201 h1 dL_law_201 ?_
  refine j_aload_n C1 202 5 rfl dL_law_202 ?_
  refine j_iload C1 203 1 rfl dL_law_203 ?_
  refine j_iconst (v := 2) C1 205 dL_law_205 rfl ?_
  refine j_iadd C1 206 dL_law_206 ?_
  refine j_sld C1 hS0 207 h2 dL_law_207 ?_
  refine j_aload_n C1 208 5 rfl dL_law_208 ?_
  refine j_iload C1 209 1 rfl dL_law_209 ?_
  refine j_iconst (v := 3) C1 211 dL_law_211 rfl ?_
  refine j_iadd C1 212 dL_law_212 ?_
  refine j_sld C1 hS0 213 h3 dL_law_213 ?_
  refine j_aload_n C1 214 5 rfl dL_law_214 ?_
  refine j_iload C1 215 1 rfl dL_law_215 ?_
  refine j_iconst (v := 4) C1 217 dL_law_217 rfl ?_
  refine j_iadd C1 218 dL_law_218 ?_
  refine j_sld C1 hS0 219 h4 dL_law_219 ?_
  refine j_bind (fun q hq => ?_)
  refine j_vMo_i (As := [.int a1, .int a2, .int a3, .int a4]) (st := []) C1 k_X6_plug 220 (c_X6_plug C.2.2.2.2.2.2.1 _ _ _ _ _ hq) rfl rfl ml_L_88 ii_X6_plug is_X6_plug dL_law_220 (by decide) rfl (Nat.le_of_ble_eq_true rfl) ?_ rfl
  refine j_V (V' := (r.2.1, (q.2, r.2.2))) rfl ?_
  refine j_istore (L1 := [(6, .int q.1), (5, .int r.1), (4, .int i), (3, .ref (G.2.2 120)), (2, .ref (G.2.2 114)), (1, .ref (G.2.2 0)), (0, .ref b)]) C1 223 dL_law_223 (by decide) rfl ?_
  refine j_aload_n C1 225 4 rfl dL_law_225 ?_
  refine j_bind (fun t ht => ?_)
  refine j_vMo_i (As := []) (st := []) C1 k_X6_thrown 226 (c_X6_thrown C.2.2.2.2.2.2.1 _ ht) rfl rfl ml_L_89 ii_X6_thrown is_X6_thrown dL_law_226 (by decide) rfl (Nat.le_of_ble_eq_true rfl) ?_ rfl
  refine j_iload C1 229 1 rfl dL_law_229 ?_
  refine j_drop2 (fun e231 => ?_)
  refine j_icmp_eq1 C1 231 236 e231 dL_law_231 (by decide) ?_
  refine j_iload C1 236 1 rfl dL_law_236 ?_
  by_cases e0 : r.1 = 0
  · rw [if_pos e0]
    refine j_drop2 (fun e1 => ?_)
    refine j_if_ne0 C1 238 253 e0 dL_law_238 (by decide) ?_
    refine j_aload_n C1 241 3 rfl dL_law_241 ?_
    refine j_iconst (v := 0) C1 242 dL_law_242 rfl ?_
    refine j_old C1 243 dL_law_243 ?_
    refine j_iload C1 244 0 rfl dL_law_244 ?_
    refine j_i2l C1 246 dL_law_246 ?_
    refine j_lcmp C1 247 dL_law_247 ?_
    refine j_lc0 C1 248 253 e1 dL_law_248 (by decide) ?_
    refine j_goto C1 253 1495 dL_law_253 (by decide) ?_
    refine j_L (L' := LL G b i) [2, 3, 4, 5, 6] rfl ?_
    exact kk _
  · rw [if_neg e0]
    refine j_if_ne1 C1 238 253 e0 dL_law_238 (by decide) ?_
    refine j_goto C1 253 1495 dL_law_253 (by decide) ?_
    refine j_L (L' := LL G b i) [2, 3, 4, 5, 6] rfl ?_
    exact kk _
/-- L_pull -/
def g_1 (Ln : Nat) (sc : Nat → Int32) (i : Int32) (v : VA) (K : VA → Option Unit) : Option Unit :=
  (ard Ln sc (i + 1)).bind fun a1 =>
  (f_L_pull v.1 v.2.2 a1).bind fun r =>
  (f_X6_pull v.2.1 a1).bind fun q =>
  (f_X6_thrown q.2).bind fun t =>
  if t = r.1 then (
  if r.1 = 0 then (if r.2.2 0 = q.1.toInt64 then K (r.2.1, (q.2, r.2.2)) else none) else K (r.2.1, (q.2, r.2.2))) else none
set_option maxRecDepth 100000 in
set_option maxHeartbeats 4000000 in
theorem wg_1 {G : GG} {sa : Nat → Nat} {X : WX} {Q : Unit → State → Prop} {b Ln : Nat} {sc : Nat → Int32} (C : Cx G 9 X RL cL_law 12) (hX : XK G sa (xs X).heap.size (xs X) (xs X).heap) (hS0 : Scr G X b Ln sc) (hc1 : xk X + 1 ≤ (xR X).cells) (hc2 : xz X + 6 ≤ (xR X).slots) (hl : (xl X).stackTraces = false) (i : Int32) (v : VA) (K : VA → Option Unit) (kk : ∀ v, JS G 9 (xup X) Q (K v) v 1495 (LL G b i) []) : JS G 9 X Q (g_1 Ln sc i v K) v 256 (LL G b i) [] := by
  unfold g_1
  refine j_V (V' := (v.1, (v.2.1, v.2.2))) rfl ?_
  refine j_aload_n C 256 3 rfl dL_law_256 ?_
  refine j_aload_n C 257 4 rfl dL_law_257 ?_
  refine j_iload C 258 0 rfl dL_law_258 ?_
  refine j_iconst (v := 1) C 260 dL_law_260 rfl ?_
  refine j_iadd C 261 dL_law_261 ?_
  refine j_bind (fun a1 h1 => ?_)
  refine j_sld C hS0 262 h1 dL_law_262 ?_
  refine j_aload_n C 263 1 rfl dL_law_263 ?_
  refine j_bind (fun r hr => ?_)
  refine j_callW (As := [.ref (G.2.2 0), .int a1, .ref (G.2.2 120)]) (st := []) C hX hc1 hc2 kw_L_pull 264 (c_L_pull C.2.2.2.2.2.2.1 hl _ _ _ _ hr) ml_L_92 st_L_pull dL_law_264 (by decide) rfl (Nat.le_of_ble_eq_true rfl) ?_ rfl
  have C1 := C.up hc1 hc2
  refine j_V (V' := (r.2.1, (v.2.1, r.2.2))) rfl ?_
  refine j_istore (L1 := [(5, .int r.1), (4, .int i), (3, .ref (G.2.2 120)), (2, .ref (G.2.2 114)), (1, .ref (G.2.2 0)), (0, .ref b)]) C1 267 dL_law_267 (by decide) rfl ?_
  refine j_aload_n C1 269 3 rfl dL_law_269 ?_
  refine j_aload_n C1 270 5 rfl dL_law_270 ?_
  refine j_iload C1 271 1 rfl dL_law_271 ?_
  refine j_iconst (v := 1) C1 273 dL_law_273 rfl ?_
  refine j_iadd C1 274 dL_law_274 ?_
  refine j_sld C1 hS0 275 h1 dL_law_275 ?_
  refine j_bind (fun q hq => ?_)
  refine j_vMo_i (As := [.int a1]) (st := []) C1 k_X6_pull 276 (c_X6_pull C.2.2.2.2.2.2.1 _ _ hq) rfl rfl ml_L_95 ii_X6_pull is_X6_pull dL_law_276 (by decide) rfl (Nat.le_of_ble_eq_true rfl) ?_ rfl
  refine j_V (V' := (r.2.1, (q.2, r.2.2))) rfl ?_
  refine j_istore (L1 := [(6, .int q.1), (5, .int r.1), (4, .int i), (3, .ref (G.2.2 120)), (2, .ref (G.2.2 114)), (1, .ref (G.2.2 0)), (0, .ref b)]) C1 279 dL_law_279 (by decide) rfl ?_
  refine j_aload_n C1 281 4 rfl dL_law_281 ?_
  refine j_bind (fun t ht => ?_)
  refine j_vMo_i (As := []) (st := []) C1 k_X6_thrown 282 (c_X6_thrown C.2.2.2.2.2.2.1 _ ht) rfl rfl ml_L_89 ii_X6_thrown is_X6_thrown dL_law_282 (by decide) rfl (Nat.le_of_ble_eq_true rfl) ?_ rfl
  refine j_iload C1 285 1 rfl dL_law_285 ?_
  refine j_drop2 (fun e287 => ?_)
  refine j_icmp_eq1 C1 287 292 e287 dL_law_287 (by decide) ?_
  refine j_iload C1 292 1 rfl dL_law_292 ?_
  by_cases e0 : r.1 = 0
  · rw [if_pos e0]
    refine j_drop2 (fun e1 => ?_)
    refine j_if_ne0 C1 294 309 e0 dL_law_294 (by decide) ?_
    refine j_aload_n C1 297 3 rfl dL_law_297 ?_
    refine j_iconst (v := 0) C1 298 dL_law_298 rfl ?_
    refine j_old C1 299 dL_law_299 ?_
    refine j_iload C1 300 0 rfl dL_law_300 ?_
    refine j_i2l C1 302 dL_law_302 ?_
    refine j_lcmp C1 303 dL_law_303 ?_
    refine j_lc0 C1 304 309 e1 dL_law_304 (by decide) ?_
    refine j_goto C1 309 1495 dL_law_309 (by decide) ?_
    refine j_L (L' := LL G b i) [2, 3, 4, 5, 6] rfl ?_
    exact kk _
  · rw [if_neg e0]
    refine j_if_ne1 C1 294 309 e0 dL_law_294 (by decide) ?_
    refine j_goto C1 309 1495 dL_law_309 (by decide) ?_
    refine j_L (L' := LL G b i) [2, 3, 4, 5, 6] rfl ?_
    exact kk _
/-- L_fail -/
def g_2 (Ln : Nat) (sc : Nat → Int32) (i : Int32) (v : VA) (K : VA → Option Unit) : Option Unit :=
  (ard Ln sc (i + 1)).bind fun a1 =>
  (f_L_fail v.1 v.2.2 a1).bind fun r =>
  (f_X6_fail v.2.1 a1).bind fun q =>
  (f_X6_thrown q.2).bind fun t =>
  if t = r.1 then (
  if r.1 = 0 then (if r.2.2 0 = q.1.toInt64 then K (r.2.1, (q.2, r.2.2)) else none) else K (r.2.1, (q.2, r.2.2))) else none
set_option maxRecDepth 100000 in
set_option maxHeartbeats 4000000 in
theorem wg_2 {G : GG} {sa : Nat → Nat} {X : WX} {Q : Unit → State → Prop} {b Ln : Nat} {sc : Nat → Int32} (C : Cx G 9 X RL cL_law 12) (hX : XK G sa (xs X).heap.size (xs X) (xs X).heap) (hS0 : Scr G X b Ln sc) (hc1 : xk X + 1 ≤ (xR X).cells) (hc2 : xz X + 6 ≤ (xR X).slots) (hl : (xl X).stackTraces = false) (i : Int32) (v : VA) (K : VA → Option Unit) (kk : ∀ v, JS G 9 (xup X) Q (K v) v 1495 (LL G b i) []) : JS G 9 X Q (g_2 Ln sc i v K) v 312 (LL G b i) [] := by
  unfold g_2
  refine j_V (V' := (v.1, (v.2.1, v.2.2))) rfl ?_
  refine j_aload_n C 312 3 rfl dL_law_312 ?_
  refine j_aload_n C 313 4 rfl dL_law_313 ?_
  refine j_iload C 314 0 rfl dL_law_314 ?_
  refine j_iconst (v := 1) C 316 dL_law_316 rfl ?_
  refine j_iadd C 317 dL_law_317 ?_
  refine j_bind (fun a1 h1 => ?_)
  refine j_sld C hS0 318 h1 dL_law_318 ?_
  refine j_aload_n C 319 1 rfl dL_law_319 ?_
  refine j_bind (fun r hr => ?_)
  refine j_callW (As := [.ref (G.2.2 0), .int a1, .ref (G.2.2 120)]) (st := []) C hX hc1 hc2 kw_L_fail 320 (c_L_fail C.2.2.2.2.2.2.1 hl _ _ _ _ hr) ml_L_96 st_L_fail dL_law_320 (by decide) rfl (Nat.le_of_ble_eq_true rfl) ?_ rfl
  have C1 := C.up hc1 hc2
  refine j_V (V' := (r.2.1, (v.2.1, r.2.2))) rfl ?_
  refine j_istore (L1 := [(5, .int r.1), (4, .int i), (3, .ref (G.2.2 120)), (2, .ref (G.2.2 114)), (1, .ref (G.2.2 0)), (0, .ref b)]) C1 323 dL_law_323 (by decide) rfl ?_
  refine j_aload_n C1 325 3 rfl dL_law_325 ?_
  refine j_aload_n C1 326 5 rfl dL_law_326 ?_
  refine j_iload C1 327 1 rfl dL_law_327 ?_
  refine j_iconst (v := 1) C1 329 dL_law_329 rfl ?_
  refine j_iadd C1 330 dL_law_330 ?_
  refine j_sld C1 hS0 331 h1 dL_law_331 ?_
  refine j_bind (fun q hq => ?_)
  refine j_vMo_i (As := [.int a1]) (st := []) C1 k_X6_fail 332 (c_X6_fail C.2.2.2.2.2.2.1 _ _ hq) rfl rfl ml_L_98 ii_X6_fail is_X6_fail dL_law_332 (by decide) rfl (Nat.le_of_ble_eq_true rfl) ?_ rfl
  refine j_V (V' := (r.2.1, (q.2, r.2.2))) rfl ?_
  refine j_istore (L1 := [(6, .int q.1), (5, .int r.1), (4, .int i), (3, .ref (G.2.2 120)), (2, .ref (G.2.2 114)), (1, .ref (G.2.2 0)), (0, .ref b)]) C1 335 dL_law_335 (by decide) rfl ?_
  refine j_aload_n C1 337 4 rfl dL_law_337 ?_
  refine j_bind (fun t ht => ?_)
  refine j_vMo_i (As := []) (st := []) C1 k_X6_thrown 338 (c_X6_thrown C.2.2.2.2.2.2.1 _ ht) rfl rfl ml_L_89 ii_X6_thrown is_X6_thrown dL_law_338 (by decide) rfl (Nat.le_of_ble_eq_true rfl) ?_ rfl
  refine j_iload C1 341 1 rfl dL_law_341 ?_
  refine j_drop2 (fun e343 => ?_)
  refine j_icmp_eq1 C1 343 348 e343 dL_law_343 (by decide) ?_
  refine j_iload C1 348 1 rfl dL_law_348 ?_
  by_cases e0 : r.1 = 0
  · rw [if_pos e0]
    refine j_drop2 (fun e1 => ?_)
    refine j_if_ne0 C1 350 365 e0 dL_law_350 (by decide) ?_
    refine j_aload_n C1 353 3 rfl dL_law_353 ?_
    refine j_iconst (v := 0) C1 354 dL_law_354 rfl ?_
    refine j_old C1 355 dL_law_355 ?_
    refine j_iload C1 356 0 rfl dL_law_356 ?_
    refine j_i2l C1 358 dL_law_358 ?_
    refine j_lcmp C1 359 dL_law_359 ?_
    refine j_lc0 C1 360 365 e1 dL_law_360 (by decide) ?_
    refine j_goto C1 365 1495 dL_law_365 (by decide) ?_
    refine j_L (L' := LL G b i) [2, 3, 4, 5, 6] rfl ?_
    exact kk _
  · rw [if_neg e0]
    refine j_if_ne1 C1 350 365 e0 dL_law_350 (by decide) ?_
    refine j_goto C1 365 1495 dL_law_365 (by decide) ?_
    refine j_L (L' := LL G b i) [2, 3, 4, 5, 6] rfl ?_
    exact kk _
/-- L_start -/
def g_3 (Ln : Nat) (sc : Nat → Int32) (i : Int32) (v : VA) (K : VA → Option Unit) : Option Unit :=
  (f_L_start v.1 v.2.2).bind fun r =>
  (f_X6_start v.2.1).bind fun q =>
  (f_X6_thrown q.2).bind fun t =>
  if t = r.1 then (
  if r.1 = 0 then (if r.2.2 0 = q.1.toInt64 then K (r.2.1, (q.2, r.2.2)) else none) else K (r.2.1, (q.2, r.2.2))) else none
set_option maxRecDepth 100000 in
set_option maxHeartbeats 4000000 in
theorem wg_3 {G : GG} {sa : Nat → Nat} {X : WX} {Q : Unit → State → Prop} {b Ln : Nat} {sc : Nat → Int32} (C : Cx G 9 X RL cL_law 12) (hX : XK G sa (xs X).heap.size (xs X) (xs X).heap) (hS0 : Scr G X b Ln sc) (hc1 : xk X + 1 ≤ (xR X).cells) (hc2 : xz X + 6 ≤ (xR X).slots) (hl : (xl X).stackTraces = false) (i : Int32) (v : VA) (K : VA → Option Unit) (kk : ∀ v, JS G 9 (xup X) Q (K v) v 1495 (LL G b i) []) : JS G 9 X Q (g_3 Ln sc i v K) v 368 (LL G b i) [] := by
  unfold g_3
  refine j_V (V' := (v.1, (v.2.1, v.2.2))) rfl ?_
  refine j_aload_n C 368 3 rfl dL_law_368 ?_
  refine j_aload_n C 369 1 rfl dL_law_369 ?_
  refine j_bind (fun r hr => ?_)
  refine j_callW (As := [.ref (G.2.2 0), .ref (G.2.2 120)]) (st := []) C hX hc1 hc2 kw_L_start 370 (c_L_start C.2.2.2.2.2.2.1 hl _ _ _ hr) ml_L_99 st_L_start dL_law_370 (by decide) rfl (Nat.le_of_ble_eq_true rfl) ?_ rfl
  have C1 := C.up hc1 hc2
  refine j_V (V' := (r.2.1, (v.2.1, r.2.2))) rfl ?_
  refine j_istore (L1 := [(5, .int r.1), (4, .int i), (3, .ref (G.2.2 120)), (2, .ref (G.2.2 114)), (1, .ref (G.2.2 0)), (0, .ref b)]) C1 373 dL_law_373 (by decide) rfl ?_
  refine j_aload_n C1 375 3 rfl dL_law_375 ?_
  refine j_bind (fun q hq => ?_)
  refine j_vMo_i (As := []) (st := []) C1 k_X6_start 376 (c_X6_start C.2.2.2.2.2.2.1 _ hq) rfl rfl ml_L_102 ii_X6_start is_X6_start dL_law_376 (by decide) rfl (Nat.le_of_ble_eq_true rfl) ?_ rfl
  refine j_V (V' := (r.2.1, (q.2, r.2.2))) rfl ?_
  refine j_istore (L1 := [(6, .int q.1), (5, .int r.1), (4, .int i), (3, .ref (G.2.2 120)), (2, .ref (G.2.2 114)), (1, .ref (G.2.2 0)), (0, .ref b)]) C1 379 dL_law_379 (by decide) rfl ?_
  refine j_aload_n C1 381 4 rfl dL_law_381 ?_
  refine j_bind (fun t ht => ?_)
  refine j_vMo_i (As := []) (st := []) C1 k_X6_thrown 382 (c_X6_thrown C.2.2.2.2.2.2.1 _ ht) rfl rfl ml_L_89 ii_X6_thrown is_X6_thrown dL_law_382 (by decide) rfl (Nat.le_of_ble_eq_true rfl) ?_ rfl
  refine j_iload C1 385 1 rfl dL_law_385 ?_
  refine j_drop2 (fun e387 => ?_)
  refine j_icmp_eq1 C1 387 392 e387 dL_law_387 (by decide) ?_
  refine j_iload C1 392 1 rfl dL_law_392 ?_
  by_cases e0 : r.1 = 0
  · rw [if_pos e0]
    refine j_drop2 (fun e1 => ?_)
    refine j_if_ne0 C1 394 409 e0 dL_law_394 (by decide) ?_
    refine j_aload_n C1 397 3 rfl dL_law_397 ?_
    refine j_iconst (v := 0) C1 398 dL_law_398 rfl ?_
    refine j_old C1 399 dL_law_399 ?_
    refine j_iload C1 400 0 rfl dL_law_400 ?_
    refine j_i2l C1 402 dL_law_402 ?_
    refine j_lcmp C1 403 dL_law_403 ?_
    refine j_lc0 C1 404 409 e1 dL_law_404 (by decide) ?_
    refine j_goto C1 409 1495 dL_law_409 (by decide) ?_
    refine j_L (L' := LL G b i) [2, 3, 4, 5, 6] rfl ?_
    exact kk _
  · rw [if_neg e0]
    refine j_if_ne1 C1 394 409 e0 dL_law_394 (by decide) ?_
    refine j_goto C1 409 1495 dL_law_409 (by decide) ?_
    refine j_L (L' := LL G b i) [2, 3, 4, 5, 6] rfl ?_
    exact kk _
/-- L_stop -/
def g_4 (Ln : Nat) (sc : Nat → Int32) (i : Int32) (v : VA) (K : VA → Option Unit) : Option Unit :=
  (f_L_stop v.1 v.2.2).bind fun r =>
  (f_X6_stop v.2.1).bind fun q =>
  (f_X6_thrown q.2).bind fun t =>
  if t = r.1 then (
  if r.1 = 0 then (if r.2.2 0 = q.1.toInt64 then K (r.2.1, (q.2, r.2.2)) else none) else K (r.2.1, (q.2, r.2.2))) else none
set_option maxRecDepth 100000 in
set_option maxHeartbeats 4000000 in
theorem wg_4 {G : GG} {sa : Nat → Nat} {X : WX} {Q : Unit → State → Prop} {b Ln : Nat} {sc : Nat → Int32} (C : Cx G 9 X RL cL_law 12) (hX : XK G sa (xs X).heap.size (xs X) (xs X).heap) (hS0 : Scr G X b Ln sc) (hc1 : xk X + 1 ≤ (xR X).cells) (hc2 : xz X + 6 ≤ (xR X).slots) (hl : (xl X).stackTraces = false) (i : Int32) (v : VA) (K : VA → Option Unit) (kk : ∀ v, JS G 9 (xup X) Q (K v) v 1495 (LL G b i) []) : JS G 9 X Q (g_4 Ln sc i v K) v 412 (LL G b i) [] := by
  unfold g_4
  refine j_V (V' := (v.1, (v.2.1, v.2.2))) rfl ?_
  refine j_aload_n C 412 3 rfl dL_law_412 ?_
  refine j_aload_n C 413 1 rfl dL_law_413 ?_
  refine j_bind (fun r hr => ?_)
  refine j_callW (As := [.ref (G.2.2 0), .ref (G.2.2 120)]) (st := []) C hX hc1 hc2 kw_L_stop 414 (c_L_stop C.2.2.2.2.2.2.1 hl _ _ _ hr) ml_L_103 st_L_stop dL_law_414 (by decide) rfl (Nat.le_of_ble_eq_true rfl) ?_ rfl
  have C1 := C.up hc1 hc2
  refine j_V (V' := (r.2.1, (v.2.1, r.2.2))) rfl ?_
  refine j_istore (L1 := [(5, .int r.1), (4, .int i), (3, .ref (G.2.2 120)), (2, .ref (G.2.2 114)), (1, .ref (G.2.2 0)), (0, .ref b)]) C1 417 dL_law_417 (by decide) rfl ?_
  refine j_aload_n C1 419 3 rfl dL_law_419 ?_
  refine j_bind (fun q hq => ?_)
  refine j_vMo_i (As := []) (st := []) C1 k_X6_stop 420 (c_X6_stop C.2.2.2.2.2.2.1 _ hq) rfl rfl ml_L_105 ii_X6_stop is_X6_stop dL_law_420 (by decide) rfl (Nat.le_of_ble_eq_true rfl) ?_ rfl
  refine j_V (V' := (r.2.1, (q.2, r.2.2))) rfl ?_
  refine j_istore (L1 := [(6, .int q.1), (5, .int r.1), (4, .int i), (3, .ref (G.2.2 120)), (2, .ref (G.2.2 114)), (1, .ref (G.2.2 0)), (0, .ref b)]) C1 423 dL_law_423 (by decide) rfl ?_
  refine j_aload_n C1 425 4 rfl dL_law_425 ?_
  refine j_bind (fun t ht => ?_)
  refine j_vMo_i (As := []) (st := []) C1 k_X6_thrown 426 (c_X6_thrown C.2.2.2.2.2.2.1 _ ht) rfl rfl ml_L_89 ii_X6_thrown is_X6_thrown dL_law_426 (by decide) rfl (Nat.le_of_ble_eq_true rfl) ?_ rfl
  refine j_iload C1 429 1 rfl dL_law_429 ?_
  refine j_drop2 (fun e431 => ?_)
  refine j_icmp_eq1 C1 431 436 e431 dL_law_431 (by decide) ?_
  refine j_iload C1 436 1 rfl dL_law_436 ?_
  by_cases e0 : r.1 = 0
  · rw [if_pos e0]
    refine j_drop2 (fun e1 => ?_)
    refine j_if_ne0 C1 438 453 e0 dL_law_438 (by decide) ?_
    refine j_aload_n C1 441 3 rfl dL_law_441 ?_
    refine j_iconst (v := 0) C1 442 dL_law_442 rfl ?_
    refine j_old C1 443 dL_law_443 ?_
    refine j_iload C1 444 0 rfl dL_law_444 ?_
    refine j_i2l C1 446 dL_law_446 ?_
    refine j_lcmp C1 447 dL_law_447 ?_
    refine j_lc0 C1 448 453 e1 dL_law_448 (by decide) ?_
    refine j_goto C1 453 1495 dL_law_453 (by decide) ?_
    refine j_L (L' := LL G b i) [2, 3, 4, 5, 6] rfl ?_
    exact kk _
  · rw [if_neg e0]
    refine j_if_ne1 C1 438 453 e0 dL_law_438 (by decide) ?_
    refine j_goto C1 453 1495 dL_law_453 (by decide) ?_
    refine j_L (L' := LL G b i) [2, 3, 4, 5, 6] rfl ?_
    exact kk _
/-- L_write -/
def g_5 (Ln : Nat) (sc : Nat → Int32) (i : Int32) (v : VA) (K : VA → Option Unit) : Option Unit :=
  (ard Ln sc (i + 1)).bind fun a1 =>
  (ard Ln sc (i + 2)).bind fun a2 =>
  (f_L_write v.1 v.2.2 a1 a2).bind fun r =>
  (f_X6_write v.2.1 a1 a2).bind fun q =>
  (f_X6_thrown q.2).bind fun t =>
  if t = r.1 then (
  if r.1 = 0 then (if r.2.2 0 = q.1.toInt64 then K (r.2.1, (q.2, r.2.2)) else none) else K (r.2.1, (q.2, r.2.2))) else none
set_option maxRecDepth 100000 in
set_option maxHeartbeats 4000000 in
theorem wg_5 {G : GG} {sa : Nat → Nat} {X : WX} {Q : Unit → State → Prop} {b Ln : Nat} {sc : Nat → Int32} (C : Cx G 9 X RL cL_law 12) (hX : XK G sa (xs X).heap.size (xs X) (xs X).heap) (hS0 : Scr G X b Ln sc) (hc1 : xk X + 1 ≤ (xR X).cells) (hc2 : xz X + 6 ≤ (xR X).slots) (hl : (xl X).stackTraces = false) (i : Int32) (v : VA) (K : VA → Option Unit) (kk : ∀ v, JS G 9 (xup X) Q (K v) v 1495 (LL G b i) []) : JS G 9 X Q (g_5 Ln sc i v K) v 456 (LL G b i) [] := by
  unfold g_5
  refine j_V (V' := (v.1, (v.2.1, v.2.2))) rfl ?_
  refine j_aload_n C 456 3 rfl dL_law_456 ?_
  refine j_aload_n C 457 4 rfl dL_law_457 ?_
  refine j_iload C 458 0 rfl dL_law_458 ?_
  refine j_iconst (v := 1) C 460 dL_law_460 rfl ?_
  refine j_iadd C 461 dL_law_461 ?_
  refine j_bind (fun a1 h1 => ?_)
  refine j_sld C hS0 462 h1 dL_law_462 ?_
  refine j_aload_n C 463 4 rfl dL_law_463 ?_
  refine j_iload C 464 0 rfl dL_law_464 ?_
  refine j_iconst (v := 2) C 466 dL_law_466 rfl ?_
  refine j_iadd C 467 dL_law_467 ?_
  refine j_bind (fun a2 h2 => ?_)
  refine j_sld C hS0 468 h2 dL_law_468 ?_
  refine j_aload_n C 469 1 rfl dL_law_469 ?_
  refine j_bind (fun r hr => ?_)
  refine j_callW (As := [.ref (G.2.2 0), .int a1, .int a2, .ref (G.2.2 120)]) (st := []) C hX hc1 hc2 kw_L_write 470 (c_L_write C.2.2.2.2.2.2.1 hl _ _ _ _ _ hr) ml_L_106 st_L_write dL_law_470 (by decide) rfl (Nat.le_of_ble_eq_true rfl) ?_ rfl
  have C1 := C.up hc1 hc2
  refine j_V (V' := (r.2.1, (v.2.1, r.2.2))) rfl ?_
  refine j_istore (L1 := [(5, .int r.1), (4, .int i), (3, .ref (G.2.2 120)), (2, .ref (G.2.2 114)), (1, .ref (G.2.2 0)), (0, .ref b)]) C1 473 dL_law_473 (by decide) rfl ?_
  refine j_aload_n C1 475 3 rfl dL_law_475 ?_
  refine j_aload_n C1 476 5 rfl dL_law_476 ?_
  refine j_iload C1 477 1 rfl dL_law_477 ?_
  refine j_iconst (v := 1) C1 479 dL_law_479 rfl ?_
  refine j_iadd C1 480 dL_law_480 ?_
  refine j_sld C1 hS0 481 h1 dL_law_481 ?_
  refine j_aload_n C1 482 5 rfl dL_law_482 ?_
  refine j_iload C1 483 1 rfl dL_law_483 ?_
  refine j_iconst (v := 2) C1 485 dL_law_485 rfl ?_
  refine j_iadd C1 486 dL_law_486 ?_
  refine j_sld C1 hS0 487 h2 dL_law_487 ?_
  refine j_bind (fun q hq => ?_)
  refine j_vMo_i (As := [.int a1, .int a2]) (st := []) C1 k_X6_write 488 (c_X6_write C.2.2.2.2.2.2.1 _ _ _ hq) rfl rfl ml_L_109 ii_X6_write is_X6_write dL_law_488 (by decide) rfl (Nat.le_of_ble_eq_true rfl) ?_ rfl
  refine j_V (V' := (r.2.1, (q.2, r.2.2))) rfl ?_
  refine j_istore (L1 := [(6, .int q.1), (5, .int r.1), (4, .int i), (3, .ref (G.2.2 120)), (2, .ref (G.2.2 114)), (1, .ref (G.2.2 0)), (0, .ref b)]) C1 491 dL_law_491 (by decide) rfl ?_
  refine j_aload_n C1 493 4 rfl dL_law_493 ?_
  refine j_bind (fun t ht => ?_)
  refine j_vMo_i (As := []) (st := []) C1 k_X6_thrown 494 (c_X6_thrown C.2.2.2.2.2.2.1 _ ht) rfl rfl ml_L_89 ii_X6_thrown is_X6_thrown dL_law_494 (by decide) rfl (Nat.le_of_ble_eq_true rfl) ?_ rfl
  refine j_iload C1 497 1 rfl dL_law_497 ?_
  refine j_drop2 (fun e499 => ?_)
  refine j_icmp_eq1 C1 499 504 e499 dL_law_499 (by decide) ?_
  refine j_iload C1 504 1 rfl dL_law_504 ?_
  by_cases e0 : r.1 = 0
  · rw [if_pos e0]
    refine j_drop2 (fun e1 => ?_)
    refine j_if_ne0 C1 506 521 e0 dL_law_506 (by decide) ?_
    refine j_aload_n C1 509 3 rfl dL_law_509 ?_
    refine j_iconst (v := 0) C1 510 dL_law_510 rfl ?_
    refine j_old C1 511 dL_law_511 ?_
    refine j_iload C1 512 0 rfl dL_law_512 ?_
    refine j_i2l C1 514 dL_law_514 ?_
    refine j_lcmp C1 515 dL_law_515 ?_
    refine j_lc0 C1 516 521 e1 dL_law_516 (by decide) ?_
    refine j_goto C1 521 1495 dL_law_521 (by decide) ?_
    refine j_L (L' := LL G b i) [2, 3, 4, 5, 6] rfl ?_
    exact kk _
  · rw [if_neg e0]
    refine j_if_ne1 C1 506 521 e0 dL_law_506 (by decide) ?_
    refine j_goto C1 521 1495 dL_law_521 (by decide) ?_
    refine j_L (L' := LL G b i) [2, 3, 4, 5, 6] rfl ?_
    exact kk _
/-- L_read -/
def g_6 (Ln : Nat) (sc : Nat → Int32) (i : Int32) (v : VA) (K : VA → Option Unit) : Option Unit :=
  (ard Ln sc (i + 1)).bind fun a1 =>
  (f_L_read v.1 v.2.2 a1).bind fun r =>
  (f_X6_read v.2.1 a1).bind fun q =>
  (f_X6_thrown q.2).bind fun t =>
  if t = r.1 then (
  if r.1 = 0 then (if r.2.2 0 = q.1.toInt64 then K (r.2.1, (q.2, r.2.2)) else none) else K (r.2.1, (q.2, r.2.2))) else none
set_option maxRecDepth 100000 in
set_option maxHeartbeats 4000000 in
theorem wg_6 {G : GG} {sa : Nat → Nat} {X : WX} {Q : Unit → State → Prop} {b Ln : Nat} {sc : Nat → Int32} (C : Cx G 9 X RL cL_law 12) (hX : XK G sa (xs X).heap.size (xs X) (xs X).heap) (hS0 : Scr G X b Ln sc) (hc1 : xk X + 1 ≤ (xR X).cells) (hc2 : xz X + 6 ≤ (xR X).slots) (hl : (xl X).stackTraces = false) (i : Int32) (v : VA) (K : VA → Option Unit) (kk : ∀ v, JS G 9 (xup X) Q (K v) v 1495 (LL G b i) []) : JS G 9 X Q (g_6 Ln sc i v K) v 524 (LL G b i) [] := by
  unfold g_6
  refine j_V (V' := (v.1, (v.2.1, v.2.2))) rfl ?_
  refine j_aload_n C 524 3 rfl dL_law_524 ?_
  refine j_aload_n C 525 4 rfl dL_law_525 ?_
  refine j_iload C 526 0 rfl dL_law_526 ?_
  refine j_iconst (v := 1) C 528 dL_law_528 rfl ?_
  refine j_iadd C 529 dL_law_529 ?_
  refine j_bind (fun a1 h1 => ?_)
  refine j_sld C hS0 530 h1 dL_law_530 ?_
  refine j_aload_n C 531 1 rfl dL_law_531 ?_
  refine j_bind (fun r hr => ?_)
  refine j_callW (As := [.ref (G.2.2 0), .int a1, .ref (G.2.2 120)]) (st := []) C hX hc1 hc2 kw_L_read 532 (c_L_read C.2.2.2.2.2.2.1 hl _ _ _ _ hr) ml_L_110 st_L_read dL_law_532 (by decide) rfl (Nat.le_of_ble_eq_true rfl) ?_ rfl
  have C1 := C.up hc1 hc2
  refine j_V (V' := (r.2.1, (v.2.1, r.2.2))) rfl ?_
  refine j_istore (L1 := [(5, .int r.1), (4, .int i), (3, .ref (G.2.2 120)), (2, .ref (G.2.2 114)), (1, .ref (G.2.2 0)), (0, .ref b)]) C1 535 dL_law_535 (by decide) rfl ?_
  refine j_aload_n C1 537 3 rfl dL_law_537 ?_
  refine j_aload_n C1 538 5 rfl dL_law_538 ?_
  refine j_iload C1 539 1 rfl dL_law_539 ?_
  refine j_iconst (v := 1) C1 541 dL_law_541 rfl ?_
  refine j_iadd C1 542 dL_law_542 ?_
  refine j_sld C1 hS0 543 h1 dL_law_543 ?_
  refine j_bind (fun q hq => ?_)
  refine j_vMo_i (As := [.int a1]) (st := []) C1 k_X6_read 544 (c_X6_read C.2.2.2.2.2.2.1 _ _ hq) rfl rfl ml_L_112 ii_X6_read is_X6_read dL_law_544 (by decide) rfl (Nat.le_of_ble_eq_true rfl) ?_ rfl
  refine j_V (V' := (r.2.1, (q.2, r.2.2))) rfl ?_
  refine j_istore (L1 := [(6, .int q.1), (5, .int r.1), (4, .int i), (3, .ref (G.2.2 120)), (2, .ref (G.2.2 114)), (1, .ref (G.2.2 0)), (0, .ref b)]) C1 547 dL_law_547 (by decide) rfl ?_
  refine j_aload_n C1 549 4 rfl dL_law_549 ?_
  refine j_bind (fun t ht => ?_)
  refine j_vMo_i (As := []) (st := []) C1 k_X6_thrown 550 (c_X6_thrown C.2.2.2.2.2.2.1 _ ht) rfl rfl ml_L_89 ii_X6_thrown is_X6_thrown dL_law_550 (by decide) rfl (Nat.le_of_ble_eq_true rfl) ?_ rfl
  refine j_iload C1 553 1 rfl dL_law_553 ?_
  refine j_drop2 (fun e555 => ?_)
  refine j_icmp_eq1 C1 555 560 e555 dL_law_555 (by decide) ?_
  refine j_iload C1 560 1 rfl dL_law_560 ?_
  by_cases e0 : r.1 = 0
  · rw [if_pos e0]
    refine j_drop2 (fun e1 => ?_)
    refine j_if_ne0 C1 562 577 e0 dL_law_562 (by decide) ?_
    refine j_aload_n C1 565 3 rfl dL_law_565 ?_
    refine j_iconst (v := 0) C1 566 dL_law_566 rfl ?_
    refine j_old C1 567 dL_law_567 ?_
    refine j_iload C1 568 0 rfl dL_law_568 ?_
    refine j_i2l C1 570 dL_law_570 ?_
    refine j_lcmp C1 571 dL_law_571 ?_
    refine j_lc0 C1 572 577 e1 dL_law_572 (by decide) ?_
    refine j_goto C1 577 1495 dL_law_577 (by decide) ?_
    refine j_L (L' := LL G b i) [2, 3, 4, 5, 6] rfl ?_
    exact kk _
  · rw [if_neg e0]
    refine j_if_ne1 C1 562 577 e0 dL_law_562 (by decide) ?_
    refine j_goto C1 577 1495 dL_law_577 (by decide) ?_
    refine j_L (L' := LL G b i) [2, 3, 4, 5, 6] rfl ?_
    exact kk _
/-- L_rest -/
def g_7 (Ln : Nat) (sc : Nat → Int32) (i : Int32) (v : VA) (K : VA → Option Unit) : Option Unit :=
  (ard Ln sc (i + 1)).bind fun a1 =>
  (f_L_rest v.1 v.2.2 a1).bind fun r =>
  (f_X6_rest v.2.1 a1).bind fun q =>
  (f_X6_thrown q.2).bind fun t =>
  if t = r.1 then (
  if r.1 = 0 then (if r.2.2 0 = q.1.toInt64 then K (r.2.1, (q.2, r.2.2)) else none) else K (r.2.1, (q.2, r.2.2))) else none
set_option maxRecDepth 100000 in
set_option maxHeartbeats 4000000 in
theorem wg_7 {G : GG} {sa : Nat → Nat} {X : WX} {Q : Unit → State → Prop} {b Ln : Nat} {sc : Nat → Int32} (C : Cx G 9 X RL cL_law 12) (hX : XK G sa (xs X).heap.size (xs X) (xs X).heap) (hS0 : Scr G X b Ln sc) (hc1 : xk X + 1 ≤ (xR X).cells) (hc2 : xz X + 6 ≤ (xR X).slots) (hl : (xl X).stackTraces = false) (i : Int32) (v : VA) (K : VA → Option Unit) (kk : ∀ v, JS G 9 (xup X) Q (K v) v 1495 (LL G b i) []) : JS G 9 X Q (g_7 Ln sc i v K) v 580 (LL G b i) [] := by
  unfold g_7
  refine j_V (V' := (v.1, (v.2.1, v.2.2))) rfl ?_
  refine j_aload_n C 580 3 rfl dL_law_580 ?_
  refine j_aload_n C 581 4 rfl dL_law_581 ?_
  refine j_iload C 582 0 rfl dL_law_582 ?_
  refine j_iconst (v := 1) C 584 dL_law_584 rfl ?_
  refine j_iadd C 585 dL_law_585 ?_
  refine j_bind (fun a1 h1 => ?_)
  refine j_sld C hS0 586 h1 dL_law_586 ?_
  refine j_aload_n C 587 1 rfl dL_law_587 ?_
  refine j_bind (fun r hr => ?_)
  refine j_callW (As := [.ref (G.2.2 0), .int a1, .ref (G.2.2 120)]) (st := []) C hX hc1 hc2 kw_L_rest 588 (c_L_rest C.2.2.2.2.2.2.1 hl _ _ _ _ hr) ml_L_113 st_L_rest dL_law_588 (by decide) rfl (Nat.le_of_ble_eq_true rfl) ?_ rfl
  have C1 := C.up hc1 hc2
  refine j_V (V' := (r.2.1, (v.2.1, r.2.2))) rfl ?_
  refine j_istore (L1 := [(5, .int r.1), (4, .int i), (3, .ref (G.2.2 120)), (2, .ref (G.2.2 114)), (1, .ref (G.2.2 0)), (0, .ref b)]) C1 591 dL_law_591 (by decide) rfl ?_
  refine j_aload_n C1 593 3 rfl dL_law_593 ?_
  refine j_aload_n C1 594 5 rfl dL_law_594 ?_
  refine j_iload C1 595 1 rfl dL_law_595 ?_
  refine j_iconst (v := 1) C1 597 dL_law_597 rfl ?_
  refine j_iadd C1 598 dL_law_598 ?_
  refine j_sld C1 hS0 599 h1 dL_law_599 ?_
  refine j_bind (fun q hq => ?_)
  refine j_vMo_i (As := [.int a1]) (st := []) C1 k_X6_rest 600 (c_X6_rest C.2.2.2.2.2.2.1 _ _ hq) rfl rfl ml_L_115 ii_X6_rest is_X6_rest dL_law_600 (by decide) rfl (Nat.le_of_ble_eq_true rfl) ?_ rfl
  refine j_V (V' := (r.2.1, (q.2, r.2.2))) rfl ?_
  refine j_istore (L1 := [(6, .int q.1), (5, .int r.1), (4, .int i), (3, .ref (G.2.2 120)), (2, .ref (G.2.2 114)), (1, .ref (G.2.2 0)), (0, .ref b)]) C1 603 dL_law_603 (by decide) rfl ?_
  refine j_aload_n C1 605 4 rfl dL_law_605 ?_
  refine j_bind (fun t ht => ?_)
  refine j_vMo_i (As := []) (st := []) C1 k_X6_thrown 606 (c_X6_thrown C.2.2.2.2.2.2.1 _ ht) rfl rfl ml_L_89 ii_X6_thrown is_X6_thrown dL_law_606 (by decide) rfl (Nat.le_of_ble_eq_true rfl) ?_ rfl
  refine j_iload C1 609 1 rfl dL_law_609 ?_
  refine j_drop2 (fun e611 => ?_)
  refine j_icmp_eq1 C1 611 616 e611 dL_law_611 (by decide) ?_
  refine j_iload C1 616 1 rfl dL_law_616 ?_
  by_cases e0 : r.1 = 0
  · rw [if_pos e0]
    refine j_drop2 (fun e1 => ?_)
    refine j_if_ne0 C1 618 633 e0 dL_law_618 (by decide) ?_
    refine j_aload_n C1 621 3 rfl dL_law_621 ?_
    refine j_iconst (v := 0) C1 622 dL_law_622 rfl ?_
    refine j_old C1 623 dL_law_623 ?_
    refine j_iload C1 624 0 rfl dL_law_624 ?_
    refine j_i2l C1 626 dL_law_626 ?_
    refine j_lcmp C1 627 dL_law_627 ?_
    refine j_lc0 C1 628 633 e1 dL_law_628 (by decide) ?_
    refine j_goto C1 633 1495 dL_law_633 (by decide) ?_
    refine j_L (L' := LL G b i) [2, 3, 4, 5, 6] rfl ?_
    exact kk _
  · rw [if_neg e0]
    refine j_if_ne1 C1 618 633 e0 dL_law_618 (by decide) ?_
    refine j_goto C1 633 1495 dL_law_633 (by decide) ?_
    refine j_L (L' := LL G b i) [2, 3, 4, 5, 6] rfl ?_
    exact kk _
/-- L_set -/
def g_8 (Ln : Nat) (sc : Nat → Int32) (i : Int32) (v : VA) (K : VA → Option Unit) : Option Unit :=
  (ard Ln sc (i + 1)).bind fun a1 =>
  (ard Ln sc (i + 2)).bind fun a2 =>
  (f_L_set v.1 v.2.2 a1 a2).bind fun r =>
  (f_X6_set v.2.1 a1 a2).bind fun q =>
  (f_X6_thrown q.2).bind fun t =>
  if t = r.1 then (
  if r.1 = 0 then (if r.2.2 0 = q.1.toInt64 then K (r.2.1, (q.2, r.2.2)) else none) else K (r.2.1, (q.2, r.2.2))) else none
set_option maxRecDepth 100000 in
set_option maxHeartbeats 4000000 in
theorem wg_8 {G : GG} {sa : Nat → Nat} {X : WX} {Q : Unit → State → Prop} {b Ln : Nat} {sc : Nat → Int32} (C : Cx G 9 X RL cL_law 12) (hX : XK G sa (xs X).heap.size (xs X) (xs X).heap) (hS0 : Scr G X b Ln sc) (hc1 : xk X + 1 ≤ (xR X).cells) (hc2 : xz X + 6 ≤ (xR X).slots) (hl : (xl X).stackTraces = false) (i : Int32) (v : VA) (K : VA → Option Unit) (kk : ∀ v, JS G 9 (xup X) Q (K v) v 1495 (LL G b i) []) : JS G 9 X Q (g_8 Ln sc i v K) v 636 (LL G b i) [] := by
  unfold g_8
  refine j_V (V' := (v.1, (v.2.1, v.2.2))) rfl ?_
  refine j_aload_n C 636 3 rfl dL_law_636 ?_
  refine j_aload_n C 637 4 rfl dL_law_637 ?_
  refine j_iload C 638 0 rfl dL_law_638 ?_
  refine j_iconst (v := 1) C 640 dL_law_640 rfl ?_
  refine j_iadd C 641 dL_law_641 ?_
  refine j_bind (fun a1 h1 => ?_)
  refine j_sld C hS0 642 h1 dL_law_642 ?_
  refine j_aload_n C 643 4 rfl dL_law_643 ?_
  refine j_iload C 644 0 rfl dL_law_644 ?_
  refine j_iconst (v := 2) C 646 dL_law_646 rfl ?_
  refine j_iadd C 647 dL_law_647 ?_
  refine j_bind (fun a2 h2 => ?_)
  refine j_sld C hS0 648 h2 dL_law_648 ?_
  refine j_aload_n C 649 1 rfl dL_law_649 ?_
  refine j_bind (fun r hr => ?_)
  refine j_callW (As := [.ref (G.2.2 0), .int a1, .int a2, .ref (G.2.2 120)]) (st := []) C hX hc1 hc2 kw_L_set 650 (c_L_set C.2.2.2.2.2.2.1 hl _ _ _ _ _ hr) ml_L_116 st_L_set dL_law_650 (by decide) rfl (Nat.le_of_ble_eq_true rfl) ?_ rfl
  have C1 := C.up hc1 hc2
  refine j_V (V' := (r.2.1, (v.2.1, r.2.2))) rfl ?_
  refine j_istore (L1 := [(5, .int r.1), (4, .int i), (3, .ref (G.2.2 120)), (2, .ref (G.2.2 114)), (1, .ref (G.2.2 0)), (0, .ref b)]) C1 653 dL_law_653 (by decide) rfl ?_
  refine j_aload_n C1 655 3 rfl dL_law_655 ?_
  refine j_aload_n C1 656 5 rfl dL_law_656 ?_
  refine j_iload C1 657 1 rfl dL_law_657 ?_
  refine j_iconst (v := 1) C1 659 dL_law_659 rfl ?_
  refine j_iadd C1 660 dL_law_660 ?_
  refine j_sld C1 hS0 661 h1 dL_law_661 ?_
  refine j_aload_n C1 662 5 rfl dL_law_662 ?_
  refine j_iload C1 663 1 rfl dL_law_663 ?_
  refine j_iconst (v := 2) C1 665 dL_law_665 rfl ?_
  refine j_iadd C1 666 dL_law_666 ?_
  refine j_sld C1 hS0 667 h2 dL_law_667 ?_
  refine j_bind (fun q hq => ?_)
  refine j_vMo_i (As := [.int a1, .int a2]) (st := []) C1 k_X6_set 668 (c_X6_set C.2.2.2.2.2.2.1 _ _ _ hq) rfl rfl ml_L_118 ii_X6_set is_X6_set dL_law_668 (by decide) rfl (Nat.le_of_ble_eq_true rfl) ?_ rfl
  refine j_V (V' := (r.2.1, (q.2, r.2.2))) rfl ?_
  refine j_istore (L1 := [(6, .int q.1), (5, .int r.1), (4, .int i), (3, .ref (G.2.2 120)), (2, .ref (G.2.2 114)), (1, .ref (G.2.2 0)), (0, .ref b)]) C1 671 dL_law_671 (by decide) rfl ?_
  refine j_aload_n C1 673 4 rfl dL_law_673 ?_
  refine j_bind (fun t ht => ?_)
  refine j_vMo_i (As := []) (st := []) C1 k_X6_thrown 674 (c_X6_thrown C.2.2.2.2.2.2.1 _ ht) rfl rfl ml_L_89 ii_X6_thrown is_X6_thrown dL_law_674 (by decide) rfl (Nat.le_of_ble_eq_true rfl) ?_ rfl
  refine j_iload C1 677 1 rfl dL_law_677 ?_
  refine j_drop2 (fun e679 => ?_)
  refine j_icmp_eq1 C1 679 684 e679 dL_law_679 (by decide) ?_
  refine j_iload C1 684 1 rfl dL_law_684 ?_
  by_cases e0 : r.1 = 0
  · rw [if_pos e0]
    refine j_drop2 (fun e1 => ?_)
    refine j_if_ne0 C1 686 701 e0 dL_law_686 (by decide) ?_
    refine j_aload_n C1 689 3 rfl dL_law_689 ?_
    refine j_iconst (v := 0) C1 690 dL_law_690 rfl ?_
    refine j_old C1 691 dL_law_691 ?_
    refine j_iload C1 692 0 rfl dL_law_692 ?_
    refine j_i2l C1 694 dL_law_694 ?_
    refine j_lcmp C1 695 dL_law_695 ?_
    refine j_lc0 C1 696 701 e1 dL_law_696 (by decide) ?_
    refine j_goto C1 701 1495 dL_law_701 (by decide) ?_
    refine j_L (L' := LL G b i) [2, 3, 4, 5, 6] rfl ?_
    exact kk _
  · rw [if_neg e0]
    refine j_if_ne1 C1 686 701 e0 dL_law_686 (by decide) ?_
    refine j_goto C1 701 1495 dL_law_701 (by decide) ?_
    refine j_L (L' := LL G b i) [2, 3, 4, 5, 6] rfl ?_
    exact kk _
/-- L_append -/
def g_9 (Ln : Nat) (sc : Nat → Int32) (i : Int32) (v : VA) (K : VA → Option Unit) : Option Unit :=
  (ard Ln sc (i + 1)).bind fun a1 =>
  (f_L_append v.1 v.2.2 a1).bind fun r =>
  (f_X6_append v.2.1 a1).bind fun q =>
  (f_X6_thrown q.2).bind fun t =>
  if t = r.1 then (
  if r.1 = 0 then (if r.2.2 0 = q.1.toInt64 then K (r.2.1, (q.2, r.2.2)) else none) else K (r.2.1, (q.2, r.2.2))) else none
set_option maxRecDepth 100000 in
set_option maxHeartbeats 4000000 in
theorem wg_9 {G : GG} {sa : Nat → Nat} {X : WX} {Q : Unit → State → Prop} {b Ln : Nat} {sc : Nat → Int32} (C : Cx G 9 X RL cL_law 12) (hX : XK G sa (xs X).heap.size (xs X) (xs X).heap) (hS0 : Scr G X b Ln sc) (hc1 : xk X + 1 ≤ (xR X).cells) (hc2 : xz X + 6 ≤ (xR X).slots) (hl : (xl X).stackTraces = false) (i : Int32) (v : VA) (K : VA → Option Unit) (kk : ∀ v, JS G 9 (xup X) Q (K v) v 1495 (LL G b i) []) : JS G 9 X Q (g_9 Ln sc i v K) v 704 (LL G b i) [] := by
  unfold g_9
  refine j_V (V' := (v.1, (v.2.1, v.2.2))) rfl ?_
  refine j_aload_n C 704 3 rfl dL_law_704 ?_
  refine j_aload_n C 705 4 rfl dL_law_705 ?_
  refine j_iload C 706 0 rfl dL_law_706 ?_
  refine j_iconst (v := 1) C 708 dL_law_708 rfl ?_
  refine j_iadd C 709 dL_law_709 ?_
  refine j_bind (fun a1 h1 => ?_)
  refine j_sld C hS0 710 h1 dL_law_710 ?_
  refine j_aload_n C 711 1 rfl dL_law_711 ?_
  refine j_bind (fun r hr => ?_)
  refine j_callW (As := [.ref (G.2.2 0), .int a1, .ref (G.2.2 120)]) (st := []) C hX hc1 hc2 kw_L_append 712 (c_L_append C.2.2.2.2.2.2.1 hl _ _ _ _ hr) ml_L_119 st_L_append dL_law_712 (by decide) rfl (Nat.le_of_ble_eq_true rfl) ?_ rfl
  have C1 := C.up hc1 hc2
  refine j_V (V' := (r.2.1, (v.2.1, r.2.2))) rfl ?_
  refine j_istore (L1 := [(5, .int r.1), (4, .int i), (3, .ref (G.2.2 120)), (2, .ref (G.2.2 114)), (1, .ref (G.2.2 0)), (0, .ref b)]) C1 715 dL_law_715 (by decide) rfl ?_
  refine j_aload_n C1 717 3 rfl dL_law_717 ?_
  refine j_aload_n C1 718 5 rfl dL_law_718 ?_
  refine j_iload C1 719 1 rfl dL_law_719 ?_
  refine j_iconst (v := 1) C1 721 dL_law_721 rfl ?_
  refine j_iadd C1 722 dL_law_722 ?_
  refine j_sld C1 hS0 723 h1 dL_law_723 ?_
  refine j_bind (fun q hq => ?_)
  refine j_vMo_i (As := [.int a1]) (st := []) C1 k_X6_append 724 (c_X6_append C.2.2.2.2.2.2.1 _ _ hq) rfl rfl ml_L_121 ii_X6_append is_X6_append dL_law_724 (by decide) rfl (Nat.le_of_ble_eq_true rfl) ?_ rfl
  refine j_V (V' := (r.2.1, (q.2, r.2.2))) rfl ?_
  refine j_istore (L1 := [(6, .int q.1), (5, .int r.1), (4, .int i), (3, .ref (G.2.2 120)), (2, .ref (G.2.2 114)), (1, .ref (G.2.2 0)), (0, .ref b)]) C1 727 dL_law_727 (by decide) rfl ?_
  refine j_aload_n C1 729 4 rfl dL_law_729 ?_
  refine j_bind (fun t ht => ?_)
  refine j_vMo_i (As := []) (st := []) C1 k_X6_thrown 730 (c_X6_thrown C.2.2.2.2.2.2.1 _ ht) rfl rfl ml_L_89 ii_X6_thrown is_X6_thrown dL_law_730 (by decide) rfl (Nat.le_of_ble_eq_true rfl) ?_ rfl
  refine j_iload C1 733 1 rfl dL_law_733 ?_
  refine j_drop2 (fun e735 => ?_)
  refine j_icmp_eq1 C1 735 740 e735 dL_law_735 (by decide) ?_
  refine j_iload C1 740 1 rfl dL_law_740 ?_
  by_cases e0 : r.1 = 0
  · rw [if_pos e0]
    refine j_drop2 (fun e1 => ?_)
    refine j_if_ne0 C1 742 757 e0 dL_law_742 (by decide) ?_
    refine j_aload_n C1 745 3 rfl dL_law_745 ?_
    refine j_iconst (v := 0) C1 746 dL_law_746 rfl ?_
    refine j_old C1 747 dL_law_747 ?_
    refine j_iload C1 748 0 rfl dL_law_748 ?_
    refine j_i2l C1 750 dL_law_750 ?_
    refine j_lcmp C1 751 dL_law_751 ?_
    refine j_lc0 C1 752 757 e1 dL_law_752 (by decide) ?_
    refine j_goto C1 757 1495 dL_law_757 (by decide) ?_
    refine j_L (L' := LL G b i) [2, 3, 4, 5, 6] rfl ?_
    exact kk _
  · rw [if_neg e0]
    refine j_if_ne1 C1 742 757 e0 dL_law_742 (by decide) ?_
    refine j_goto C1 757 1495 dL_law_757 (by decide) ?_
    refine j_L (L' := LL G b i) [2, 3, 4, 5, 6] rfl ?_
    exact kk _
/-- V_clearBuffer -/
def g_10 (Ln : Nat) (sc : Nat → Int32) (i : Int32) (v : VA) (K : VA → Option Unit) : Option Unit :=
  (f_X5_clearBuffer v.1).bind fun r =>
  (f_X6_clearBuffer v.2.1).bind fun q =>
  if r.1 = q.1 then (
  K (r.2, (q.2, v.2.2))) else none
set_option maxRecDepth 100000 in
set_option maxHeartbeats 4000000 in
theorem wg_10 {G : GG} {sa : Nat → Nat} {X : WX} {Q : Unit → State → Prop} {b Ln : Nat} {sc : Nat → Int32} (C : Cx G 9 X RL cL_law 12) (hX : XK G sa (xs X).heap.size (xs X) (xs X).heap) (hS0 : Scr G X b Ln sc) (hc1 : xk X + 1 ≤ (xR X).cells) (hc2 : xz X + 6 ≤ (xR X).slots) (hl : (xl X).stackTraces = false) (i : Int32) (v : VA) (K : VA → Option Unit) (kk : ∀ v, JS G 9 (xup X) Q (K v) v 1495 (LL G b i) []) : JS G 9 X Q (g_10 Ln sc i v K) v 760 (LL G b i) [] := by
  unfold g_10
  refine j_V (V' := (v.1, (v.2.1, v.2.2))) rfl ?_
  refine j_aload_n C 760 3 rfl dL_law_760 ?_
  refine j_bind (fun r hr => ?_)
  refine j_vSp_i (As := []) (st := []) C k_X5_clearBuffer 761 (c_X5_clearBuffer C.2.2.2.2.2.2.1 _ hr) rfl rfl ml_L_122 ii_X5_clearBuffer is_X5_clearBuffer dL_law_761 (by decide) rfl (Nat.le_of_ble_eq_true rfl) ?_ rfl
  refine j_V (V' := (r.2, (v.2.1, v.2.2))) rfl ?_
  refine j_aload_n C 764 2 rfl dL_law_764 ?_
  refine j_bind (fun q hq => ?_)
  refine j_vMo_i (As := []) (st := [.int r.1]) C k_X6_clearBuffer 765 (c_X6_clearBuffer C.2.2.2.2.2.2.1 _ hq) rfl rfl ml_L_125 ii_X6_clearBuffer is_X6_clearBuffer dL_law_765 (by decide) rfl (Nat.le_of_ble_eq_true rfl) ?_ rfl
  refine j_V (V' := (r.2, (q.2, v.2.2))) rfl ?_
  refine j_drop2 (fun e768 => ?_)
  refine j_icmp_eq1 C 768 1495 e768 dL_law_768 (by decide) ?_
  refine j_xup ?_
  exact kk _
/-- V_firstError -/
def g_11 (Ln : Nat) (sc : Nat → Int32) (i : Int32) (v : VA) (K : VA → Option Unit) : Option Unit :=
  (f_X5_firstError v.1).bind fun r =>
  (f_X6_firstError v.2.1).bind fun q =>
  if r.1 = q.1 then (
  K (r.2, (q.2, v.2.2))) else none
set_option maxRecDepth 100000 in
set_option maxHeartbeats 4000000 in
theorem wg_11 {G : GG} {sa : Nat → Nat} {X : WX} {Q : Unit → State → Prop} {b Ln : Nat} {sc : Nat → Int32} (C : Cx G 9 X RL cL_law 12) (hX : XK G sa (xs X).heap.size (xs X) (xs X).heap) (hS0 : Scr G X b Ln sc) (hc1 : xk X + 1 ≤ (xR X).cells) (hc2 : xz X + 6 ≤ (xR X).slots) (hl : (xl X).stackTraces = false) (i : Int32) (v : VA) (K : VA → Option Unit) (kk : ∀ v, JS G 9 (xup X) Q (K v) v 1495 (LL G b i) []) : JS G 9 X Q (g_11 Ln sc i v K) v 773 (LL G b i) [] := by
  unfold g_11
  refine j_V (V' := (v.1, (v.2.1, v.2.2))) rfl ?_
  refine j_aload_n C 773 3 rfl dL_law_773 ?_
  refine j_bind (fun r hr => ?_)
  refine j_vSp_i (As := []) (st := []) C k_X5_firstError 774 (c_X5_firstError C.2.2.2.2.2.2.1 _ hr) rfl rfl ml_L_126 ii_X5_firstError is_X5_firstError dL_law_774 (by decide) rfl (Nat.le_of_ble_eq_true rfl) ?_ rfl
  refine j_V (V' := (r.2, (v.2.1, v.2.2))) rfl ?_
  refine j_aload_n C 777 2 rfl dL_law_777 ?_
  refine j_bind (fun q hq => ?_)
  refine j_vMo_i (As := []) (st := [.int r.1]) C k_X6_firstError 778 (c_X6_firstError C.2.2.2.2.2.2.1 _ hq) rfl rfl ml_L_129 ii_X6_firstError is_X6_firstError dL_law_778 (by decide) rfl (Nat.le_of_ble_eq_true rfl) ?_ rfl
  refine j_V (V' := (r.2, (q.2, v.2.2))) rfl ?_
  refine j_drop2 (fun e781 => ?_)
  refine j_icmp_eq1 C 781 1495 e781 dL_law_781 (by decide) ?_
  refine j_xup ?_
  exact kk _
/-- L_run -/
def g_12 (Ln : Nat) (sc : Nat → Int32) (i : Int32) (v : VA) (K : VA → Option Unit) : Option Unit :=
  (f_L_run v.1 v.2.2).bind fun r =>
  (f_X6_run v.2.1).bind fun q =>
  (f_X6_thrown q.2).bind fun t =>
  if t = r.1 then (
  if r.1 = 0 then (if r.2.2 0 = q.1.toInt64 then K (r.2.1, (q.2, r.2.2)) else none) else K (r.2.1, (q.2, r.2.2))) else none
set_option maxRecDepth 100000 in
set_option maxHeartbeats 4000000 in
theorem wg_12 {G : GG} {sa : Nat → Nat} {X : WX} {Q : Unit → State → Prop} {b Ln : Nat} {sc : Nat → Int32} (C : Cx G 9 X RL cL_law 12) (hX : XK G sa (xs X).heap.size (xs X) (xs X).heap) (hS0 : Scr G X b Ln sc) (hc1 : xk X + 1 ≤ (xR X).cells) (hc2 : xz X + 6 ≤ (xR X).slots) (hl : (xl X).stackTraces = false) (i : Int32) (v : VA) (K : VA → Option Unit) (kk : ∀ v, JS G 9 (xup X) Q (K v) v 1495 (LL G b i) []) : JS G 9 X Q (g_12 Ln sc i v K) v 786 (LL G b i) [] := by
  unfold g_12
  refine j_V (V' := (v.1, (v.2.1, v.2.2))) rfl ?_
  refine j_aload_n C 786 3 rfl dL_law_786 ?_
  refine j_aload_n C 787 1 rfl dL_law_787 ?_
  refine j_bind (fun r hr => ?_)
  refine j_callW (As := [.ref (G.2.2 0), .ref (G.2.2 120)]) (st := []) C hX hc1 hc2 kw_L_run 788 (c_L_run C.2.2.2.2.2.2.1 hl _ _ _ hr) ml_L_130 st_L_run dL_law_788 (by decide) rfl (Nat.le_of_ble_eq_true rfl) ?_ rfl
  have C1 := C.up hc1 hc2
  refine j_V (V' := (r.2.1, (v.2.1, r.2.2))) rfl ?_
  refine j_istore (L1 := [(5, .int r.1), (4, .int i), (3, .ref (G.2.2 120)), (2, .ref (G.2.2 114)), (1, .ref (G.2.2 0)), (0, .ref b)]) C1 791 dL_law_791 (by decide) rfl ?_
  refine j_aload_n C1 793 3 rfl dL_law_793 ?_
  refine j_bind (fun q hq => ?_)
  refine j_vMo_i (As := []) (st := []) C1 k_X6_run 794 (c_X6_run C.2.2.2.2.2.2.1 _ hq) rfl rfl ml_L_132 ii_X6_run is_X6_run dL_law_794 (by decide) rfl (Nat.le_of_ble_eq_true rfl) ?_ rfl
  refine j_V (V' := (r.2.1, (q.2, r.2.2))) rfl ?_
  refine j_istore (L1 := [(6, .int q.1), (5, .int r.1), (4, .int i), (3, .ref (G.2.2 120)), (2, .ref (G.2.2 114)), (1, .ref (G.2.2 0)), (0, .ref b)]) C1 797 dL_law_797 (by decide) rfl ?_
  refine j_aload_n C1 799 4 rfl dL_law_799 ?_
  refine j_bind (fun t ht => ?_)
  refine j_vMo_i (As := []) (st := []) C1 k_X6_thrown 800 (c_X6_thrown C.2.2.2.2.2.2.1 _ ht) rfl rfl ml_L_89 ii_X6_thrown is_X6_thrown dL_law_800 (by decide) rfl (Nat.le_of_ble_eq_true rfl) ?_ rfl
  refine j_iload C1 803 1 rfl dL_law_803 ?_
  refine j_drop2 (fun e805 => ?_)
  refine j_icmp_eq1 C1 805 810 e805 dL_law_805 (by decide) ?_
  refine j_iload C1 810 1 rfl dL_law_810 ?_
  by_cases e0 : r.1 = 0
  · rw [if_pos e0]
    refine j_drop2 (fun e1 => ?_)
    refine j_if_ne0 C1 812 827 e0 dL_law_812 (by decide) ?_
    refine j_aload_n C1 815 3 rfl dL_law_815 ?_
    refine j_iconst (v := 0) C1 816 dL_law_816 rfl ?_
    refine j_old C1 817 dL_law_817 ?_
    refine j_iload C1 818 0 rfl dL_law_818 ?_
    refine j_i2l C1 820 dL_law_820 ?_
    refine j_lcmp C1 821 dL_law_821 ?_
    refine j_lc0 C1 822 827 e1 dL_law_822 (by decide) ?_
    refine j_goto C1 827 1495 dL_law_827 (by decide) ?_
    refine j_L (L' := LL G b i) [2, 3, 4, 5, 6] rfl ?_
    exact kk _
  · rw [if_neg e0]
    refine j_if_ne1 C1 812 827 e0 dL_law_812 (by decide) ?_
    refine j_goto C1 827 1495 dL_law_827 (by decide) ?_
    refine j_L (L' := LL G b i) [2, 3, 4, 5, 6] rfl ?_
    exact kk _
/-- V_keep -/
def g_13 (Ln : Nat) (sc : Nat → Int32) (i : Int32) (v : VA) (K : VA → Option Unit) : Option Unit :=
  (f_X5_keep v.1).bind fun r =>
  (f_X6_keep v.2.1).bind fun q =>
  if r.1 = q.1 then (
  K (r.2, (q.2, v.2.2))) else none
set_option maxRecDepth 100000 in
set_option maxHeartbeats 4000000 in
theorem wg_13 {G : GG} {sa : Nat → Nat} {X : WX} {Q : Unit → State → Prop} {b Ln : Nat} {sc : Nat → Int32} (C : Cx G 9 X RL cL_law 12) (hX : XK G sa (xs X).heap.size (xs X) (xs X).heap) (hS0 : Scr G X b Ln sc) (hc1 : xk X + 1 ≤ (xR X).cells) (hc2 : xz X + 6 ≤ (xR X).slots) (hl : (xl X).stackTraces = false) (i : Int32) (v : VA) (K : VA → Option Unit) (kk : ∀ v, JS G 9 (xup X) Q (K v) v 1495 (LL G b i) []) : JS G 9 X Q (g_13 Ln sc i v K) v 830 (LL G b i) [] := by
  unfold g_13
  refine j_V (V' := (v.1, (v.2.1, v.2.2))) rfl ?_
  refine j_aload_n C 830 3 rfl dL_law_830 ?_
  refine j_bind (fun r hr => ?_)
  refine j_vSp_i (As := []) (st := []) C k_X5_keep 831 (c_X5_keep C.2.2.2.2.2.2.1 _ hr) rfl rfl ml_L_133 ii_X5_keep is_X5_keep dL_law_831 (by decide) rfl (Nat.le_of_ble_eq_true rfl) ?_ rfl
  refine j_V (V' := (r.2, (v.2.1, v.2.2))) rfl ?_
  refine j_aload_n C 834 2 rfl dL_law_834 ?_
  refine j_bind (fun q hq => ?_)
  refine j_vMo_i (As := []) (st := [.int r.1]) C k_X6_keep 835 (c_X6_keep C.2.2.2.2.2.2.1 _ hq) rfl rfl ml_L_136 ii_X6_keep is_X6_keep dL_law_835 (by decide) rfl (Nat.le_of_ble_eq_true rfl) ?_ rfl
  refine j_V (V' := (r.2, (q.2, v.2.2))) rfl ?_
  refine j_drop2 (fun e838 => ?_)
  refine j_icmp_eq1 C 838 1495 e838 dL_law_838 (by decide) ?_
  refine j_xup ?_
  exact kk _
/-- L_goBack -/
def g_14 (Ln : Nat) (sc : Nat → Int32) (i : Int32) (v : VA) (K : VA → Option Unit) : Option Unit :=
  (f_L_goBack v.1 v.2.2).bind fun r =>
  (f_X6_goBack v.2.1).bind fun q =>
  (f_X6_thrown q.2).bind fun t =>
  if t = r.1 then (
  if r.1 = 0 then (if r.2.2 0 = q.1.toInt64 then K (r.2.1, (q.2, r.2.2)) else none) else K (r.2.1, (q.2, r.2.2))) else none
set_option maxRecDepth 100000 in
set_option maxHeartbeats 4000000 in
theorem wg_14 {G : GG} {sa : Nat → Nat} {X : WX} {Q : Unit → State → Prop} {b Ln : Nat} {sc : Nat → Int32} (C : Cx G 9 X RL cL_law 12) (hX : XK G sa (xs X).heap.size (xs X) (xs X).heap) (hS0 : Scr G X b Ln sc) (hc1 : xk X + 1 ≤ (xR X).cells) (hc2 : xz X + 6 ≤ (xR X).slots) (hl : (xl X).stackTraces = false) (i : Int32) (v : VA) (K : VA → Option Unit) (kk : ∀ v, JS G 9 (xup X) Q (K v) v 1495 (LL G b i) []) : JS G 9 X Q (g_14 Ln sc i v K) v 843 (LL G b i) [] := by
  unfold g_14
  refine j_V (V' := (v.1, (v.2.1, v.2.2))) rfl ?_
  refine j_aload_n C 843 3 rfl dL_law_843 ?_
  refine j_aload_n C 844 1 rfl dL_law_844 ?_
  refine j_bind (fun r hr => ?_)
  refine j_callW (As := [.ref (G.2.2 0), .ref (G.2.2 120)]) (st := []) C hX hc1 hc2 kw_L_goBack 845 (c_L_goBack C.2.2.2.2.2.2.1 hl _ _ _ hr) ml_L_137 st_L_goBack dL_law_845 (by decide) rfl (Nat.le_of_ble_eq_true rfl) ?_ rfl
  have C1 := C.up hc1 hc2
  refine j_V (V' := (r.2.1, (v.2.1, r.2.2))) rfl ?_
  refine j_istore (L1 := [(5, .int r.1), (4, .int i), (3, .ref (G.2.2 120)), (2, .ref (G.2.2 114)), (1, .ref (G.2.2 0)), (0, .ref b)]) C1 848 dL_law_848 (by decide) rfl ?_
  refine j_aload_n C1 850 3 rfl dL_law_850 ?_
  refine j_bind (fun q hq => ?_)
  refine j_vMo_i (As := []) (st := []) C1 k_X6_goBack 851 (c_X6_goBack C.2.2.2.2.2.2.1 _ hq) rfl rfl ml_L_139 ii_X6_goBack is_X6_goBack dL_law_851 (by decide) rfl (Nat.le_of_ble_eq_true rfl) ?_ rfl
  refine j_V (V' := (r.2.1, (q.2, r.2.2))) rfl ?_
  refine j_istore (L1 := [(6, .int q.1), (5, .int r.1), (4, .int i), (3, .ref (G.2.2 120)), (2, .ref (G.2.2 114)), (1, .ref (G.2.2 0)), (0, .ref b)]) C1 854 dL_law_854 (by decide) rfl ?_
  refine j_aload_n C1 856 4 rfl dL_law_856 ?_
  refine j_bind (fun t ht => ?_)
  refine j_vMo_i (As := []) (st := []) C1 k_X6_thrown 857 (c_X6_thrown C.2.2.2.2.2.2.1 _ ht) rfl rfl ml_L_89 ii_X6_thrown is_X6_thrown dL_law_857 (by decide) rfl (Nat.le_of_ble_eq_true rfl) ?_ rfl
  refine j_iload C1 860 1 rfl dL_law_860 ?_
  refine j_drop2 (fun e862 => ?_)
  refine j_icmp_eq1 C1 862 867 e862 dL_law_862 (by decide) ?_
  refine j_iload C1 867 1 rfl dL_law_867 ?_
  by_cases e0 : r.1 = 0
  · rw [if_pos e0]
    refine j_drop2 (fun e1 => ?_)
    refine j_if_ne0 C1 869 884 e0 dL_law_869 (by decide) ?_
    refine j_aload_n C1 872 3 rfl dL_law_872 ?_
    refine j_iconst (v := 0) C1 873 dL_law_873 rfl ?_
    refine j_old C1 874 dL_law_874 ?_
    refine j_iload C1 875 0 rfl dL_law_875 ?_
    refine j_i2l C1 877 dL_law_877 ?_
    refine j_lcmp C1 878 dL_law_878 ?_
    refine j_lc0 C1 879 884 e1 dL_law_879 (by decide) ?_
    refine j_goto C1 884 1495 dL_law_884 (by decide) ?_
    refine j_L (L' := LL G b i) [2, 3, 4, 5, 6] rfl ?_
    exact kk _
  · rw [if_neg e0]
    refine j_if_ne1 C1 869 884 e0 dL_law_869 (by decide) ?_
    refine j_goto C1 884 1495 dL_law_884 (by decide) ?_
    refine j_L (L' := LL G b i) [2, 3, 4, 5, 6] rfl ?_
    exact kk _
/-- L_undo -/
def g_15 (Ln : Nat) (sc : Nat → Int32) (i : Int32) (v : VA) (K : VA → Option Unit) : Option Unit :=
  (f_L_undo v.1 v.2.2).bind fun r =>
  (f_X6_undo v.2.1).bind fun q =>
  (f_X6_thrown q.2).bind fun t =>
  if t = r.1 then (
  if r.1 = 0 then (if r.2.2 0 = q.1.toInt64 then K (r.2.1, (q.2, r.2.2)) else none) else K (r.2.1, (q.2, r.2.2))) else none
set_option maxRecDepth 100000 in
set_option maxHeartbeats 4000000 in
theorem wg_15 {G : GG} {sa : Nat → Nat} {X : WX} {Q : Unit → State → Prop} {b Ln : Nat} {sc : Nat → Int32} (C : Cx G 9 X RL cL_law 12) (hX : XK G sa (xs X).heap.size (xs X) (xs X).heap) (hS0 : Scr G X b Ln sc) (hc1 : xk X + 1 ≤ (xR X).cells) (hc2 : xz X + 6 ≤ (xR X).slots) (hl : (xl X).stackTraces = false) (i : Int32) (v : VA) (K : VA → Option Unit) (kk : ∀ v, JS G 9 (xup X) Q (K v) v 1495 (LL G b i) []) : JS G 9 X Q (g_15 Ln sc i v K) v 887 (LL G b i) [] := by
  unfold g_15
  refine j_V (V' := (v.1, (v.2.1, v.2.2))) rfl ?_
  refine j_aload_n C 887 3 rfl dL_law_887 ?_
  refine j_aload_n C 888 1 rfl dL_law_888 ?_
  refine j_bind (fun r hr => ?_)
  refine j_callW (As := [.ref (G.2.2 0), .ref (G.2.2 120)]) (st := []) C hX hc1 hc2 kw_L_undo 889 (c_L_undo C.2.2.2.2.2.2.1 hl _ _ _ hr) ml_L_140 st_L_undo dL_law_889 (by decide) rfl (Nat.le_of_ble_eq_true rfl) ?_ rfl
  have C1 := C.up hc1 hc2
  refine j_V (V' := (r.2.1, (v.2.1, r.2.2))) rfl ?_
  refine j_istore (L1 := [(5, .int r.1), (4, .int i), (3, .ref (G.2.2 120)), (2, .ref (G.2.2 114)), (1, .ref (G.2.2 0)), (0, .ref b)]) C1 892 dL_law_892 (by decide) rfl ?_
  refine j_aload_n C1 894 3 rfl dL_law_894 ?_
  refine j_bind (fun q hq => ?_)
  refine j_vMo_i (As := []) (st := []) C1 k_X6_undo 895 (c_X6_undo C.2.2.2.2.2.2.1 _ hq) rfl rfl ml_L_142 ii_X6_undo is_X6_undo dL_law_895 (by decide) rfl (Nat.le_of_ble_eq_true rfl) ?_ rfl
  refine j_V (V' := (r.2.1, (q.2, r.2.2))) rfl ?_
  refine j_istore (L1 := [(6, .int q.1), (5, .int r.1), (4, .int i), (3, .ref (G.2.2 120)), (2, .ref (G.2.2 114)), (1, .ref (G.2.2 0)), (0, .ref b)]) C1 898 dL_law_898 (by decide) rfl ?_
  refine j_aload_n C1 900 4 rfl dL_law_900 ?_
  refine j_bind (fun t ht => ?_)
  refine j_vMo_i (As := []) (st := []) C1 k_X6_thrown 901 (c_X6_thrown C.2.2.2.2.2.2.1 _ ht) rfl rfl ml_L_89 ii_X6_thrown is_X6_thrown dL_law_901 (by decide) rfl (Nat.le_of_ble_eq_true rfl) ?_ rfl
  refine j_iload C1 904 1 rfl dL_law_904 ?_
  refine j_drop2 (fun e906 => ?_)
  refine j_icmp_eq1 C1 906 911 e906 dL_law_906 (by decide) ?_
  refine j_iload C1 911 1 rfl dL_law_911 ?_
  by_cases e0 : r.1 = 0
  · rw [if_pos e0]
    refine j_drop2 (fun e1 => ?_)
    refine j_if_ne0 C1 913 928 e0 dL_law_913 (by decide) ?_
    refine j_aload_n C1 916 3 rfl dL_law_916 ?_
    refine j_iconst (v := 0) C1 917 dL_law_917 rfl ?_
    refine j_old C1 918 dL_law_918 ?_
    refine j_iload C1 919 0 rfl dL_law_919 ?_
    refine j_i2l C1 921 dL_law_921 ?_
    refine j_lcmp C1 922 dL_law_922 ?_
    refine j_lc0 C1 923 928 e1 dL_law_923 (by decide) ?_
    refine j_goto C1 928 1495 dL_law_928 (by decide) ?_
    refine j_L (L' := LL G b i) [2, 3, 4, 5, 6] rfl ?_
    exact kk _
  · rw [if_neg e0]
    refine j_if_ne1 C1 913 928 e0 dL_law_913 (by decide) ?_
    refine j_goto C1 928 1495 dL_law_928 (by decide) ?_
    refine j_L (L' := LL G b i) [2, 3, 4, 5, 6] rfl ?_
    exact kk _
/-- L_slot -/
def g_16 (Ln : Nat) (sc : Nat → Int32) (i : Int32) (v : VA) (K : VA → Option Unit) : Option Unit :=
  (ard Ln sc (i + 1)).bind fun a1 =>
  (ard Ln sc (i + 2)).bind fun a2 =>
  (f_L_slot v.1 v.2.2 a1 a2).bind fun r =>
  (f_X6_slot v.2.1 a1 a2).bind fun q =>
  (f_X6_thrown q.2).bind fun t =>
  if t = r.1 then (
  if r.1 = 0 then (if r.2.2 0 = q.1.toInt64 then K (r.2.1, (q.2, r.2.2)) else none) else K (r.2.1, (q.2, r.2.2))) else none
set_option maxRecDepth 100000 in
set_option maxHeartbeats 4000000 in
theorem wg_16 {G : GG} {sa : Nat → Nat} {X : WX} {Q : Unit → State → Prop} {b Ln : Nat} {sc : Nat → Int32} (C : Cx G 9 X RL cL_law 12) (hX : XK G sa (xs X).heap.size (xs X) (xs X).heap) (hS0 : Scr G X b Ln sc) (hc1 : xk X + 1 ≤ (xR X).cells) (hc2 : xz X + 6 ≤ (xR X).slots) (hl : (xl X).stackTraces = false) (i : Int32) (v : VA) (K : VA → Option Unit) (kk : ∀ v, JS G 9 (xup X) Q (K v) v 1495 (LL G b i) []) : JS G 9 X Q (g_16 Ln sc i v K) v 931 (LL G b i) [] := by
  unfold g_16
  refine j_V (V' := (v.1, (v.2.1, v.2.2))) rfl ?_
  refine j_aload_n C 931 3 rfl dL_law_931 ?_
  refine j_aload_n C 932 4 rfl dL_law_932 ?_
  refine j_iload C 933 0 rfl dL_law_933 ?_
  refine j_iconst (v := 1) C 935 dL_law_935 rfl ?_
  refine j_iadd C 936 dL_law_936 ?_
  refine j_bind (fun a1 h1 => ?_)
  refine j_sld C hS0 937 h1 dL_law_937 ?_
  refine j_aload_n C 938 4 rfl dL_law_938 ?_
  refine j_iload C 939 0 rfl dL_law_939 ?_
  refine j_iconst (v := 2) C 941 dL_law_941 rfl ?_
  refine j_iadd C 942 dL_law_942 ?_
  refine j_bind (fun a2 h2 => ?_)
  refine j_sld C hS0 943 h2 dL_law_943 ?_
  refine j_aload_n C 944 1 rfl dL_law_944 ?_
  refine j_bind (fun r hr => ?_)
  refine j_callW (As := [.ref (G.2.2 0), .int a1, .int a2, .ref (G.2.2 120)]) (st := []) C hX hc1 hc2 kw_L_slot 945 (c_L_slot C.2.2.2.2.2.2.1 hl _ _ _ _ _ hr) ml_L_143 st_L_slot dL_law_945 (by decide) rfl (Nat.le_of_ble_eq_true rfl) ?_ rfl
  have C1 := C.up hc1 hc2
  refine j_V (V' := (r.2.1, (v.2.1, r.2.2))) rfl ?_
  refine j_istore (L1 := [(5, .int r.1), (4, .int i), (3, .ref (G.2.2 120)), (2, .ref (G.2.2 114)), (1, .ref (G.2.2 0)), (0, .ref b)]) C1 948 dL_law_948 (by decide) rfl ?_
  refine j_aload_n C1 950 3 rfl dL_law_950 ?_
  refine j_aload_n C1 951 5 rfl dL_law_951 ?_
  refine j_iload C1 952 1 rfl dL_law_952 ?_
  refine j_iconst (v := 1) C1 954 dL_law_954 rfl ?_
  refine j_iadd C1 955 dL_law_955 ?_
  refine j_sld C1 hS0 956 h1 dL_law_956 ?_
  refine j_aload_n C1 957 5 rfl dL_law_957 ?_
  refine j_iload C1 958 1 rfl dL_law_958 ?_
  refine j_iconst (v := 2) C1 960 dL_law_960 rfl ?_
  refine j_iadd C1 961 dL_law_961 ?_
  refine j_sld C1 hS0 962 h2 dL_law_962 ?_
  refine j_bind (fun q hq => ?_)
  refine j_vMo_i (As := [.int a1, .int a2]) (st := []) C1 k_X6_slot 963 (c_X6_slot C.2.2.2.2.2.2.1 _ _ _ hq) rfl rfl ml_L_145 ii_X6_slot is_X6_slot dL_law_963 (by decide) rfl (Nat.le_of_ble_eq_true rfl) ?_ rfl
  refine j_V (V' := (r.2.1, (q.2, r.2.2))) rfl ?_
  refine j_istore (L1 := [(6, .int q.1), (5, .int r.1), (4, .int i), (3, .ref (G.2.2 120)), (2, .ref (G.2.2 114)), (1, .ref (G.2.2 0)), (0, .ref b)]) C1 966 dL_law_966 (by decide) rfl ?_
  refine j_aload_n C1 968 4 rfl dL_law_968 ?_
  refine j_bind (fun t ht => ?_)
  refine j_vMo_i (As := []) (st := []) C1 k_X6_thrown 969 (c_X6_thrown C.2.2.2.2.2.2.1 _ ht) rfl rfl ml_L_89 ii_X6_thrown is_X6_thrown dL_law_969 (by decide) rfl (Nat.le_of_ble_eq_true rfl) ?_ rfl
  refine j_iload C1 972 1 rfl dL_law_972 ?_
  refine j_drop2 (fun e974 => ?_)
  refine j_icmp_eq1 C1 974 979 e974 dL_law_974 (by decide) ?_
  refine j_iload C1 979 1 rfl dL_law_979 ?_
  by_cases e0 : r.1 = 0
  · rw [if_pos e0]
    refine j_drop2 (fun e1 => ?_)
    refine j_if_ne0 C1 981 996 e0 dL_law_981 (by decide) ?_
    refine j_aload_n C1 984 3 rfl dL_law_984 ?_
    refine j_iconst (v := 0) C1 985 dL_law_985 rfl ?_
    refine j_old C1 986 dL_law_986 ?_
    refine j_iload C1 987 0 rfl dL_law_987 ?_
    refine j_i2l C1 989 dL_law_989 ?_
    refine j_lcmp C1 990 dL_law_990 ?_
    refine j_lc0 C1 991 996 e1 dL_law_991 (by decide) ?_
    refine j_goto C1 996 1495 dL_law_996 (by decide) ?_
    refine j_L (L' := LL G b i) [2, 3, 4, 5, 6] rfl ?_
    exact kk _
  · rw [if_neg e0]
    refine j_if_ne1 C1 981 996 e0 dL_law_981 (by decide) ?_
    refine j_goto C1 996 1495 dL_law_996 (by decide) ?_
    refine j_L (L' := LL G b i) [2, 3, 4, 5, 6] rfl ?_
    exact kk _
/-- L_where -/
def g_17 (Ln : Nat) (sc : Nat → Int32) (i : Int32) (v : VA) (K : VA → Option Unit) : Option Unit :=
  (ard Ln sc (i + 1)).bind fun a1 =>
  (ard Ln sc (i + 2)).bind fun a2 =>
  (f_L_where v.1 v.2.2 a1 a2).bind fun r =>
  (f_X6_where v.2.1 a1 a2).bind fun q =>
  (f_X6_thrown q.2).bind fun t =>
  if t = r.1 then (
  if r.1 = 0 then (if r.2.2 0 = q.1.toInt64 then K (r.2.1, (q.2, r.2.2)) else none) else K (r.2.1, (q.2, r.2.2))) else none
set_option maxRecDepth 100000 in
set_option maxHeartbeats 4000000 in
theorem wg_17 {G : GG} {sa : Nat → Nat} {X : WX} {Q : Unit → State → Prop} {b Ln : Nat} {sc : Nat → Int32} (C : Cx G 9 X RL cL_law 12) (hX : XK G sa (xs X).heap.size (xs X) (xs X).heap) (hS0 : Scr G X b Ln sc) (hc1 : xk X + 1 ≤ (xR X).cells) (hc2 : xz X + 6 ≤ (xR X).slots) (hl : (xl X).stackTraces = false) (i : Int32) (v : VA) (K : VA → Option Unit) (kk : ∀ v, JS G 9 (xup X) Q (K v) v 1495 (LL G b i) []) : JS G 9 X Q (g_17 Ln sc i v K) v 999 (LL G b i) [] := by
  unfold g_17
  refine j_V (V' := (v.1, (v.2.1, v.2.2))) rfl ?_
  refine j_aload_n C 999 3 rfl dL_law_999 ?_
  refine j_aload_n C 1000 4 rfl dL_law_1000 ?_
  refine j_iload C 1001 0 rfl dL_law_1001 ?_
  refine j_iconst (v := 1) C 1003 dL_law_1003 rfl ?_
  refine j_iadd C 1004 dL_law_1004 ?_
  refine j_bind (fun a1 h1 => ?_)
  refine j_sld C hS0 1005 h1 dL_law_1005 ?_
  refine j_aload_n C 1006 4 rfl dL_law_1006 ?_
  refine j_iload C 1007 0 rfl dL_law_1007 ?_
  refine j_iconst (v := 2) C 1009 dL_law_1009 rfl ?_
  refine j_iadd C 1010 dL_law_1010 ?_
  refine j_bind (fun a2 h2 => ?_)
  refine j_sld C hS0 1011 h2 dL_law_1011 ?_
  refine j_aload_n C 1012 1 rfl dL_law_1012 ?_
  refine j_bind (fun r hr => ?_)
  refine j_callW (As := [.ref (G.2.2 0), .int a1, .int a2, .ref (G.2.2 120)]) (st := []) C hX hc1 hc2 kw_L_where 1013 (c_L_where C.2.2.2.2.2.2.1 hl _ _ _ _ _ hr) ml_L_146 st_L_where dL_law_1013 (by decide) rfl (Nat.le_of_ble_eq_true rfl) ?_ rfl
  have C1 := C.up hc1 hc2
  refine j_V (V' := (r.2.1, (v.2.1, r.2.2))) rfl ?_
  refine j_istore (L1 := [(5, .int r.1), (4, .int i), (3, .ref (G.2.2 120)), (2, .ref (G.2.2 114)), (1, .ref (G.2.2 0)), (0, .ref b)]) C1 1016 dL_law_1016 (by decide) rfl ?_
  refine j_aload_n C1 1018 3 rfl dL_law_1018 ?_
  refine j_aload_n C1 1019 5 rfl dL_law_1019 ?_
  refine j_iload C1 1020 1 rfl dL_law_1020 ?_
  refine j_iconst (v := 1) C1 1022 dL_law_1022 rfl ?_
  refine j_iadd C1 1023 dL_law_1023 ?_
  refine j_sld C1 hS0 1024 h1 dL_law_1024 ?_
  refine j_aload_n C1 1025 5 rfl dL_law_1025 ?_
  refine j_iload C1 1026 1 rfl dL_law_1026 ?_
  refine j_iconst (v := 2) C1 1028 dL_law_1028 rfl ?_
  refine j_iadd C1 1029 dL_law_1029 ?_
  refine j_sld C1 hS0 1030 h2 dL_law_1030 ?_
  refine j_bind (fun q hq => ?_)
  refine j_vMo_i (As := [.int a1, .int a2]) (st := []) C1 k_X6_where 1031 (c_X6_where C.2.2.2.2.2.2.1 _ _ _ hq) rfl rfl ml_L_148 ii_X6_where is_X6_where dL_law_1031 (by decide) rfl (Nat.le_of_ble_eq_true rfl) ?_ rfl
  refine j_V (V' := (r.2.1, (q.2, r.2.2))) rfl ?_
  refine j_istore (L1 := [(6, .int q.1), (5, .int r.1), (4, .int i), (3, .ref (G.2.2 120)), (2, .ref (G.2.2 114)), (1, .ref (G.2.2 0)), (0, .ref b)]) C1 1034 dL_law_1034 (by decide) rfl ?_
  refine j_aload_n C1 1036 4 rfl dL_law_1036 ?_
  refine j_bind (fun t ht => ?_)
  refine j_vMo_i (As := []) (st := []) C1 k_X6_thrown 1037 (c_X6_thrown C.2.2.2.2.2.2.1 _ ht) rfl rfl ml_L_89 ii_X6_thrown is_X6_thrown dL_law_1037 (by decide) rfl (Nat.le_of_ble_eq_true rfl) ?_ rfl
  refine j_iload C1 1040 1 rfl dL_law_1040 ?_
  refine j_drop2 (fun e1042 => ?_)
  refine j_icmp_eq1 C1 1042 1047 e1042 dL_law_1042 (by decide) ?_
  refine j_iload C1 1047 1 rfl dL_law_1047 ?_
  by_cases e0 : r.1 = 0
  · rw [if_pos e0]
    refine j_drop2 (fun e1 => ?_)
    refine j_if_ne0 C1 1049 1064 e0 dL_law_1049 (by decide) ?_
    refine j_aload_n C1 1052 3 rfl dL_law_1052 ?_
    refine j_iconst (v := 0) C1 1053 dL_law_1053 rfl ?_
    refine j_old C1 1054 dL_law_1054 ?_
    refine j_iload C1 1055 0 rfl dL_law_1055 ?_
    refine j_i2l C1 1057 dL_law_1057 ?_
    refine j_lcmp C1 1058 dL_law_1058 ?_
    refine j_lc0 C1 1059 1064 e1 dL_law_1059 (by decide) ?_
    refine j_goto C1 1064 1495 dL_law_1064 (by decide) ?_
    refine j_L (L' := LL G b i) [2, 3, 4, 5, 6] rfl ?_
    exact kk _
  · rw [if_neg e0]
    refine j_if_ne1 C1 1049 1064 e0 dL_law_1049 (by decide) ?_
    refine j_goto C1 1064 1495 dL_law_1064 (by decide) ?_
    refine j_L (L' := LL G b i) [2, 3, 4, 5, 6] rfl ?_
    exact kk _
/-- L_lies -/
def g_18 (Ln : Nat) (sc : Nat → Int32) (i : Int32) (v : VA) (K : VA → Option Unit) : Option Unit :=
  (ard Ln sc (i + 1)).bind fun a1 =>
  (ard Ln sc (i + 2)).bind fun a2 =>
  (f_L_lies v.1 v.2.2 a1 a2).bind fun r =>
  (f_X6_lies v.2.1 a1 a2).bind fun q =>
  (f_X6_thrown q.2).bind fun t =>
  if t = r.1 then (
  if r.1 = 0 then (if r.2.2 0 = q.1.toInt64 then K (r.2.1, (q.2, r.2.2)) else none) else K (r.2.1, (q.2, r.2.2))) else none
set_option maxRecDepth 100000 in
set_option maxHeartbeats 4000000 in
theorem wg_18 {G : GG} {sa : Nat → Nat} {X : WX} {Q : Unit → State → Prop} {b Ln : Nat} {sc : Nat → Int32} (C : Cx G 9 X RL cL_law 12) (hX : XK G sa (xs X).heap.size (xs X) (xs X).heap) (hS0 : Scr G X b Ln sc) (hc1 : xk X + 1 ≤ (xR X).cells) (hc2 : xz X + 6 ≤ (xR X).slots) (hl : (xl X).stackTraces = false) (i : Int32) (v : VA) (K : VA → Option Unit) (kk : ∀ v, JS G 9 (xup X) Q (K v) v 1495 (LL G b i) []) : JS G 9 X Q (g_18 Ln sc i v K) v 1067 (LL G b i) [] := by
  unfold g_18
  refine j_V (V' := (v.1, (v.2.1, v.2.2))) rfl ?_
  refine j_aload_n C 1067 3 rfl dL_law_1067 ?_
  refine j_aload_n C 1068 4 rfl dL_law_1068 ?_
  refine j_iload C 1069 0 rfl dL_law_1069 ?_
  refine j_iconst (v := 1) C 1071 dL_law_1071 rfl ?_
  refine j_iadd C 1072 dL_law_1072 ?_
  refine j_bind (fun a1 h1 => ?_)
  refine j_sld C hS0 1073 h1 dL_law_1073 ?_
  refine j_aload_n C 1074 4 rfl dL_law_1074 ?_
  refine j_iload C 1075 0 rfl dL_law_1075 ?_
  refine j_iconst (v := 2) C 1077 dL_law_1077 rfl ?_
  refine j_iadd C 1078 dL_law_1078 ?_
  refine j_bind (fun a2 h2 => ?_)
  refine j_sld C hS0 1079 h2 dL_law_1079 ?_
  refine j_aload_n C 1080 1 rfl dL_law_1080 ?_
  refine j_bind (fun r hr => ?_)
  refine j_callW (As := [.ref (G.2.2 0), .int a1, .int a2, .ref (G.2.2 120)]) (st := []) C hX hc1 hc2 kw_L_lies 1081 (c_L_lies C.2.2.2.2.2.2.1 hl _ _ _ _ _ hr) ml_L_149 st_L_lies dL_law_1081 (by decide) rfl (Nat.le_of_ble_eq_true rfl) ?_ rfl
  have C1 := C.up hc1 hc2
  refine j_V (V' := (r.2.1, (v.2.1, r.2.2))) rfl ?_
  refine j_istore (L1 := [(5, .int r.1), (4, .int i), (3, .ref (G.2.2 120)), (2, .ref (G.2.2 114)), (1, .ref (G.2.2 0)), (0, .ref b)]) C1 1084 dL_law_1084 (by decide) rfl ?_
  refine j_aload_n C1 1086 3 rfl dL_law_1086 ?_
  refine j_aload_n C1 1087 5 rfl dL_law_1087 ?_
  refine j_iload C1 1088 1 rfl dL_law_1088 ?_
  refine j_iconst (v := 1) C1 1090 dL_law_1090 rfl ?_
  refine j_iadd C1 1091 dL_law_1091 ?_
  refine j_sld C1 hS0 1092 h1 dL_law_1092 ?_
  refine j_aload_n C1 1093 5 rfl dL_law_1093 ?_
  refine j_iload C1 1094 1 rfl dL_law_1094 ?_
  refine j_iconst (v := 2) C1 1096 dL_law_1096 rfl ?_
  refine j_iadd C1 1097 dL_law_1097 ?_
  refine j_sld C1 hS0 1098 h2 dL_law_1098 ?_
  refine j_bind (fun q hq => ?_)
  refine j_vMo_i (As := [.int a1, .int a2]) (st := []) C1 k_X6_lies 1099 (c_X6_lies C.2.2.2.2.2.2.1 _ _ _ hq) rfl rfl ml_L_151 ii_X6_lies is_X6_lies dL_law_1099 (by decide) rfl (Nat.le_of_ble_eq_true rfl) ?_ rfl
  refine j_V (V' := (r.2.1, (q.2, r.2.2))) rfl ?_
  refine j_istore (L1 := [(6, .int q.1), (5, .int r.1), (4, .int i), (3, .ref (G.2.2 120)), (2, .ref (G.2.2 114)), (1, .ref (G.2.2 0)), (0, .ref b)]) C1 1102 dL_law_1102 (by decide) rfl ?_
  refine j_aload_n C1 1104 4 rfl dL_law_1104 ?_
  refine j_bind (fun t ht => ?_)
  refine j_vMo_i (As := []) (st := []) C1 k_X6_thrown 1105 (c_X6_thrown C.2.2.2.2.2.2.1 _ ht) rfl rfl ml_L_89 ii_X6_thrown is_X6_thrown dL_law_1105 (by decide) rfl (Nat.le_of_ble_eq_true rfl) ?_ rfl
  refine j_iload C1 1108 1 rfl dL_law_1108 ?_
  refine j_drop2 (fun e1110 => ?_)
  refine j_icmp_eq1 C1 1110 1115 e1110 dL_law_1110 (by decide) ?_
  refine j_iload C1 1115 1 rfl dL_law_1115 ?_
  by_cases e0 : r.1 = 0
  · rw [if_pos e0]
    refine j_drop2 (fun e1 => ?_)
    refine j_if_ne0 C1 1117 1132 e0 dL_law_1117 (by decide) ?_
    refine j_aload_n C1 1120 3 rfl dL_law_1120 ?_
    refine j_iconst (v := 0) C1 1121 dL_law_1121 rfl ?_
    refine j_old C1 1122 dL_law_1122 ?_
    refine j_iload C1 1123 0 rfl dL_law_1123 ?_
    refine j_i2l C1 1125 dL_law_1125 ?_
    refine j_lcmp C1 1126 dL_law_1126 ?_
    refine j_lc0 C1 1127 1132 e1 dL_law_1127 (by decide) ?_
    refine j_goto C1 1132 1495 dL_law_1132 (by decide) ?_
    refine j_L (L' := LL G b i) [2, 3, 4, 5, 6] rfl ?_
    exact kk _
  · rw [if_neg e0]
    refine j_if_ne1 C1 1117 1132 e0 dL_law_1117 (by decide) ?_
    refine j_goto C1 1132 1495 dL_law_1132 (by decide) ?_
    refine j_L (L' := LL G b i) [2, 3, 4, 5, 6] rfl ?_
    exact kk _
/-- L_count -/
def g_19 (Ln : Nat) (sc : Nat → Int32) (i : Int32) (v : VA) (K : VA → Option Unit) : Option Unit :=
  (ard Ln sc (i + 1)).bind fun a1 =>
  (f_L_count v.1 v.2.2 a1).bind fun r =>
  (f_X6_count v.2.1 a1).bind fun q =>
  (f_X6_thrown q.2).bind fun t =>
  if t = r.1 then (
  if r.1 = 0 then (if r.2.2 0 = q.1.toInt64 then K (r.2.1, (q.2, r.2.2)) else none) else K (r.2.1, (q.2, r.2.2))) else none
set_option maxRecDepth 100000 in
set_option maxHeartbeats 4000000 in
theorem wg_19 {G : GG} {sa : Nat → Nat} {X : WX} {Q : Unit → State → Prop} {b Ln : Nat} {sc : Nat → Int32} (C : Cx G 9 X RL cL_law 12) (hX : XK G sa (xs X).heap.size (xs X) (xs X).heap) (hS0 : Scr G X b Ln sc) (hc1 : xk X + 1 ≤ (xR X).cells) (hc2 : xz X + 6 ≤ (xR X).slots) (hl : (xl X).stackTraces = false) (i : Int32) (v : VA) (K : VA → Option Unit) (kk : ∀ v, JS G 9 (xup X) Q (K v) v 1495 (LL G b i) []) : JS G 9 X Q (g_19 Ln sc i v K) v 1135 (LL G b i) [] := by
  unfold g_19
  refine j_V (V' := (v.1, (v.2.1, v.2.2))) rfl ?_
  refine j_aload_n C 1135 3 rfl dL_law_1135 ?_
  refine j_aload_n C 1136 4 rfl dL_law_1136 ?_
  refine j_iload C 1137 0 rfl dL_law_1137 ?_
  refine j_iconst (v := 1) C 1139 dL_law_1139 rfl ?_
  refine j_iadd C 1140 dL_law_1140 ?_
  refine j_bind (fun a1 h1 => ?_)
  refine j_sld C hS0 1141 h1 dL_law_1141 ?_
  refine j_aload_n C 1142 1 rfl dL_law_1142 ?_
  refine j_bind (fun r hr => ?_)
  refine j_callW (As := [.ref (G.2.2 0), .int a1, .ref (G.2.2 120)]) (st := []) C hX hc1 hc2 kw_L_count 1143 (c_L_count C.2.2.2.2.2.2.1 hl _ _ _ _ hr) ml_L_152 st_L_count dL_law_1143 (by decide) rfl (Nat.le_of_ble_eq_true rfl) ?_ rfl
  have C1 := C.up hc1 hc2
  refine j_V (V' := (r.2.1, (v.2.1, r.2.2))) rfl ?_
  refine j_istore (L1 := [(5, .int r.1), (4, .int i), (3, .ref (G.2.2 120)), (2, .ref (G.2.2 114)), (1, .ref (G.2.2 0)), (0, .ref b)]) C1 1146 dL_law_1146 (by decide) rfl ?_
  refine j_aload_n C1 1148 3 rfl dL_law_1148 ?_
  refine j_aload_n C1 1149 5 rfl dL_law_1149 ?_
  refine j_iload C1 1150 1 rfl dL_law_1150 ?_
  refine j_iconst (v := 1) C1 1152 dL_law_1152 rfl ?_
  refine j_iadd C1 1153 dL_law_1153 ?_
  refine j_sld C1 hS0 1154 h1 dL_law_1154 ?_
  refine j_bind (fun q hq => ?_)
  refine j_vMo_i (As := [.int a1]) (st := []) C1 k_X6_count 1155 (c_X6_count C.2.2.2.2.2.2.1 _ _ hq) rfl rfl ml_L_154 ii_X6_count is_X6_count dL_law_1155 (by decide) rfl (Nat.le_of_ble_eq_true rfl) ?_ rfl
  refine j_V (V' := (r.2.1, (q.2, r.2.2))) rfl ?_
  refine j_istore (L1 := [(6, .int q.1), (5, .int r.1), (4, .int i), (3, .ref (G.2.2 120)), (2, .ref (G.2.2 114)), (1, .ref (G.2.2 0)), (0, .ref b)]) C1 1158 dL_law_1158 (by decide) rfl ?_
  refine j_aload_n C1 1160 4 rfl dL_law_1160 ?_
  refine j_bind (fun t ht => ?_)
  refine j_vMo_i (As := []) (st := []) C1 k_X6_thrown 1161 (c_X6_thrown C.2.2.2.2.2.2.1 _ ht) rfl rfl ml_L_89 ii_X6_thrown is_X6_thrown dL_law_1161 (by decide) rfl (Nat.le_of_ble_eq_true rfl) ?_ rfl
  refine j_iload C1 1164 1 rfl dL_law_1164 ?_
  refine j_drop2 (fun e1166 => ?_)
  refine j_icmp_eq1 C1 1166 1171 e1166 dL_law_1166 (by decide) ?_
  refine j_iload C1 1171 1 rfl dL_law_1171 ?_
  by_cases e0 : r.1 = 0
  · rw [if_pos e0]
    refine j_drop2 (fun e1 => ?_)
    refine j_if_ne0 C1 1173 1188 e0 dL_law_1173 (by decide) ?_
    refine j_aload_n C1 1176 3 rfl dL_law_1176 ?_
    refine j_iconst (v := 0) C1 1177 dL_law_1177 rfl ?_
    refine j_old C1 1178 dL_law_1178 ?_
    refine j_iload C1 1179 0 rfl dL_law_1179 ?_
    refine j_i2l C1 1181 dL_law_1181 ?_
    refine j_lcmp C1 1182 dL_law_1182 ?_
    refine j_lc0 C1 1183 1188 e1 dL_law_1183 (by decide) ?_
    refine j_goto C1 1188 1495 dL_law_1188 (by decide) ?_
    refine j_L (L' := LL G b i) [2, 3, 4, 5, 6] rfl ?_
    exact kk _
  · rw [if_neg e0]
    refine j_if_ne1 C1 1173 1188 e0 dL_law_1173 (by decide) ?_
    refine j_goto C1 1188 1495 dL_law_1188 (by decide) ?_
    refine j_L (L' := LL G b i) [2, 3, 4, 5, 6] rfl ?_
    exact kk _
/-- L_setting -/
def g_20 (Ln : Nat) (sc : Nat → Int32) (i : Int32) (v : VA) (K : VA → Option Unit) : Option Unit :=
  (ard Ln sc (i + 1)).bind fun a1 =>
  (f_L_setting v.1 v.2.2 a1).bind fun r =>
  (f_X6_setting v.2.1 a1).bind fun q =>
  (f_X6_thrown q.2).bind fun t =>
  if t = r.1 then (
  if r.1 = 0 then (if r.2.2 0 = q.1.toInt64 then K (r.2.1, (q.2, r.2.2)) else none) else K (r.2.1, (q.2, r.2.2))) else none
set_option maxRecDepth 100000 in
set_option maxHeartbeats 4000000 in
theorem wg_20 {G : GG} {sa : Nat → Nat} {X : WX} {Q : Unit → State → Prop} {b Ln : Nat} {sc : Nat → Int32} (C : Cx G 9 X RL cL_law 12) (hX : XK G sa (xs X).heap.size (xs X) (xs X).heap) (hS0 : Scr G X b Ln sc) (hc1 : xk X + 1 ≤ (xR X).cells) (hc2 : xz X + 6 ≤ (xR X).slots) (hl : (xl X).stackTraces = false) (i : Int32) (v : VA) (K : VA → Option Unit) (kk : ∀ v, JS G 9 (xup X) Q (K v) v 1495 (LL G b i) []) : JS G 9 X Q (g_20 Ln sc i v K) v 1191 (LL G b i) [] := by
  unfold g_20
  refine j_V (V' := (v.1, (v.2.1, v.2.2))) rfl ?_
  refine j_aload_n C 1191 3 rfl dL_law_1191 ?_
  refine j_aload_n C 1192 4 rfl dL_law_1192 ?_
  refine j_iload C 1193 0 rfl dL_law_1193 ?_
  refine j_iconst (v := 1) C 1195 dL_law_1195 rfl ?_
  refine j_iadd C 1196 dL_law_1196 ?_
  refine j_bind (fun a1 h1 => ?_)
  refine j_sld C hS0 1197 h1 dL_law_1197 ?_
  refine j_aload_n C 1198 1 rfl dL_law_1198 ?_
  refine j_bind (fun r hr => ?_)
  refine j_callW (As := [.ref (G.2.2 0), .int a1, .ref (G.2.2 120)]) (st := []) C hX hc1 hc2 kw_L_setting 1199 (c_L_setting C.2.2.2.2.2.2.1 hl _ _ _ _ hr) ml_L_155 st_L_setting dL_law_1199 (by decide) rfl (Nat.le_of_ble_eq_true rfl) ?_ rfl
  have C1 := C.up hc1 hc2
  refine j_V (V' := (r.2.1, (v.2.1, r.2.2))) rfl ?_
  refine j_istore (L1 := [(5, .int r.1), (4, .int i), (3, .ref (G.2.2 120)), (2, .ref (G.2.2 114)), (1, .ref (G.2.2 0)), (0, .ref b)]) C1 1202 dL_law_1202 (by decide) rfl ?_
  refine j_aload_n C1 1204 3 rfl dL_law_1204 ?_
  refine j_aload_n C1 1205 5 rfl dL_law_1205 ?_
  refine j_iload C1 1206 1 rfl dL_law_1206 ?_
  refine j_iconst (v := 1) C1 1208 dL_law_1208 rfl ?_
  refine j_iadd C1 1209 dL_law_1209 ?_
  refine j_sld C1 hS0 1210 h1 dL_law_1210 ?_
  refine j_bind (fun q hq => ?_)
  refine j_vMo_i (As := [.int a1]) (st := []) C1 k_X6_setting 1211 (c_X6_setting C.2.2.2.2.2.2.1 _ _ hq) rfl rfl ml_L_157 ii_X6_setting is_X6_setting dL_law_1211 (by decide) rfl (Nat.le_of_ble_eq_true rfl) ?_ rfl
  refine j_V (V' := (r.2.1, (q.2, r.2.2))) rfl ?_
  refine j_istore (L1 := [(6, .int q.1), (5, .int r.1), (4, .int i), (3, .ref (G.2.2 120)), (2, .ref (G.2.2 114)), (1, .ref (G.2.2 0)), (0, .ref b)]) C1 1214 dL_law_1214 (by decide) rfl ?_
  refine j_aload_n C1 1216 4 rfl dL_law_1216 ?_
  refine j_bind (fun t ht => ?_)
  refine j_vMo_i (As := []) (st := []) C1 k_X6_thrown 1217 (c_X6_thrown C.2.2.2.2.2.2.1 _ ht) rfl rfl ml_L_89 ii_X6_thrown is_X6_thrown dL_law_1217 (by decide) rfl (Nat.le_of_ble_eq_true rfl) ?_ rfl
  refine j_iload C1 1220 1 rfl dL_law_1220 ?_
  refine j_drop2 (fun e1222 => ?_)
  refine j_icmp_eq1 C1 1222 1227 e1222 dL_law_1222 (by decide) ?_
  refine j_iload C1 1227 1 rfl dL_law_1227 ?_
  by_cases e0 : r.1 = 0
  · rw [if_pos e0]
    refine j_drop2 (fun e1 => ?_)
    refine j_if_ne0 C1 1229 1244 e0 dL_law_1229 (by decide) ?_
    refine j_aload_n C1 1232 3 rfl dL_law_1232 ?_
    refine j_iconst (v := 0) C1 1233 dL_law_1233 rfl ?_
    refine j_old C1 1234 dL_law_1234 ?_
    refine j_iload C1 1235 0 rfl dL_law_1235 ?_
    refine j_i2l C1 1237 dL_law_1237 ?_
    refine j_lcmp C1 1238 dL_law_1238 ?_
    refine j_lc0 C1 1239 1244 e1 dL_law_1239 (by decide) ?_
    refine j_goto C1 1244 1495 dL_law_1244 (by decide) ?_
    refine j_L (L' := LL G b i) [2, 3, 4, 5, 6] rfl ?_
    exact kk _
  · rw [if_neg e0]
    refine j_if_ne1 C1 1229 1244 e0 dL_law_1229 (by decide) ?_
    refine j_goto C1 1244 1495 dL_law_1244 (by decide) ?_
    refine j_L (L' := LL G b i) [2, 3, 4, 5, 6] rfl ?_
    exact kk _
/-- V_why -/
def g_21 (Ln : Nat) (sc : Nat → Int32) (i : Int32) (v : VA) (K : VA → Option Unit) : Option Unit :=
  (f_X5_why v.1).bind fun r =>
  (f_X6_why v.2.1).bind fun q =>
  if r = q.1 then (
  K (v.1, (q.2, v.2.2))) else none
set_option maxRecDepth 100000 in
set_option maxHeartbeats 4000000 in
theorem wg_21 {G : GG} {sa : Nat → Nat} {X : WX} {Q : Unit → State → Prop} {b Ln : Nat} {sc : Nat → Int32} (C : Cx G 9 X RL cL_law 12) (hX : XK G sa (xs X).heap.size (xs X) (xs X).heap) (hS0 : Scr G X b Ln sc) (hc1 : xk X + 1 ≤ (xR X).cells) (hc2 : xz X + 6 ≤ (xR X).slots) (hl : (xl X).stackTraces = false) (i : Int32) (v : VA) (K : VA → Option Unit) (kk : ∀ v, JS G 9 (xup X) Q (K v) v 1495 (LL G b i) []) : JS G 9 X Q (g_21 Ln sc i v K) v 1247 (LL G b i) [] := by
  unfold g_21
  refine j_V (V' := (v.1, (v.2.1, v.2.2))) rfl ?_
  refine j_aload_n C 1247 3 rfl dL_law_1247 ?_
  refine j_bind (fun r hr => ?_)
  refine j_vSp_i (As := []) (st := []) C k_X5_why 1248 (c_X5_why C.2.2.2.2.2.2.1 _ hr) rfl rfl ml_L_158 ii_X5_why is_X5_why dL_law_1248 (by decide) rfl (Nat.le_of_ble_eq_true rfl) ?_ rfl
  refine j_aload_n C 1251 2 rfl dL_law_1251 ?_
  refine j_bind (fun q hq => ?_)
  refine j_vMo_i (As := []) (st := [.int r]) C k_X6_why 1252 (c_X6_why C.2.2.2.2.2.2.1 _ hq) rfl rfl ml_L_161 ii_X6_why is_X6_why dL_law_1252 (by decide) rfl (Nat.le_of_ble_eq_true rfl) ?_ rfl
  refine j_V (V' := (v.1, (q.2, v.2.2))) rfl ?_
  refine j_drop2 (fun e1255 => ?_)
  refine j_icmp_eq1 C 1255 1495 e1255 dL_law_1255 (by decide) ?_
  refine j_xup ?_
  exact kk _
/-- L_sweep -/
def g_22 (Ln : Nat) (sc : Nat → Int32) (i : Int32) (v : VA) (K : VA → Option Unit) : Option Unit :=
  (ard Ln sc (i + 1)).bind fun a1 =>
  (f_L_sweep v.1 v.2.2 a1).bind fun r =>
  (f_X6_sweep v.2.1 a1).bind fun q =>
  (f_X6_thrown q.2).bind fun t =>
  if t = r.1 then (
  if r.1 = 0 then (if r.2.2 0 = q.1.toInt64 then K (r.2.1, (q.2, r.2.2)) else none) else K (r.2.1, (q.2, r.2.2))) else none
set_option maxRecDepth 100000 in
set_option maxHeartbeats 4000000 in
theorem wg_22 {G : GG} {sa : Nat → Nat} {X : WX} {Q : Unit → State → Prop} {b Ln : Nat} {sc : Nat → Int32} (C : Cx G 9 X RL cL_law 12) (hX : XK G sa (xs X).heap.size (xs X) (xs X).heap) (hS0 : Scr G X b Ln sc) (hc1 : xk X + 1 ≤ (xR X).cells) (hc2 : xz X + 6 ≤ (xR X).slots) (hl : (xl X).stackTraces = false) (i : Int32) (v : VA) (K : VA → Option Unit) (kk : ∀ v, JS G 9 (xup X) Q (K v) v 1495 (LL G b i) []) : JS G 9 X Q (g_22 Ln sc i v K) v 1260 (LL G b i) [] := by
  unfold g_22
  refine j_V (V' := (v.1, (v.2.1, v.2.2))) rfl ?_
  refine j_aload_n C 1260 3 rfl dL_law_1260 ?_
  refine j_aload_n C 1261 4 rfl dL_law_1261 ?_
  refine j_iload C 1262 0 rfl dL_law_1262 ?_
  refine j_iconst (v := 1) C 1264 dL_law_1264 rfl ?_
  refine j_iadd C 1265 dL_law_1265 ?_
  refine j_bind (fun a1 h1 => ?_)
  refine j_sld C hS0 1266 h1 dL_law_1266 ?_
  refine j_aload_n C 1267 1 rfl dL_law_1267 ?_
  refine j_bind (fun r hr => ?_)
  refine j_callW (As := [.ref (G.2.2 0), .int a1, .ref (G.2.2 120)]) (st := []) C hX hc1 hc2 kw_L_sweep 1268 (c_L_sweep C.2.2.2.2.2.2.1 hl _ _ _ _ hr) ml_L_162 st_L_sweep dL_law_1268 (by decide) rfl (Nat.le_of_ble_eq_true rfl) ?_ rfl
  have C1 := C.up hc1 hc2
  refine j_V (V' := (r.2.1, (v.2.1, r.2.2))) rfl ?_
  refine j_istore (L1 := [(5, .int r.1), (4, .int i), (3, .ref (G.2.2 120)), (2, .ref (G.2.2 114)), (1, .ref (G.2.2 0)), (0, .ref b)]) C1 1271 dL_law_1271 (by decide) rfl ?_
  refine j_aload_n C1 1273 3 rfl dL_law_1273 ?_
  refine j_aload_n C1 1274 5 rfl dL_law_1274 ?_
  refine j_iload C1 1275 1 rfl dL_law_1275 ?_
  refine j_iconst (v := 1) C1 1277 dL_law_1277 rfl ?_
  refine j_iadd C1 1278 dL_law_1278 ?_
  refine j_sld C1 hS0 1279 h1 dL_law_1279 ?_
  refine j_bind (fun q hq => ?_)
  refine j_vMo_i (As := [.int a1]) (st := []) C1 k_X6_sweep 1280 (c_X6_sweep C.2.2.2.2.2.2.1 _ _ hq) rfl rfl ml_L_164 ii_X6_sweep is_X6_sweep dL_law_1280 (by decide) rfl (Nat.le_of_ble_eq_true rfl) ?_ rfl
  refine j_V (V' := (r.2.1, (q.2, r.2.2))) rfl ?_
  refine j_istore (L1 := [(6, .int q.1), (5, .int r.1), (4, .int i), (3, .ref (G.2.2 120)), (2, .ref (G.2.2 114)), (1, .ref (G.2.2 0)), (0, .ref b)]) C1 1283 dL_law_1283 (by decide) rfl ?_
  refine j_aload_n C1 1285 4 rfl dL_law_1285 ?_
  refine j_bind (fun t ht => ?_)
  refine j_vMo_i (As := []) (st := []) C1 k_X6_thrown 1286 (c_X6_thrown C.2.2.2.2.2.2.1 _ ht) rfl rfl ml_L_89 ii_X6_thrown is_X6_thrown dL_law_1286 (by decide) rfl (Nat.le_of_ble_eq_true rfl) ?_ rfl
  refine j_iload C1 1289 1 rfl dL_law_1289 ?_
  refine j_drop2 (fun e1291 => ?_)
  refine j_icmp_eq1 C1 1291 1296 e1291 dL_law_1291 (by decide) ?_
  refine j_iload C1 1296 1 rfl dL_law_1296 ?_
  by_cases e0 : r.1 = 0
  · rw [if_pos e0]
    refine j_drop2 (fun e1 => ?_)
    refine j_if_ne0 C1 1298 1313 e0 dL_law_1298 (by decide) ?_
    refine j_aload_n C1 1301 3 rfl dL_law_1301 ?_
    refine j_iconst (v := 0) C1 1302 dL_law_1302 rfl ?_
    refine j_old C1 1303 dL_law_1303 ?_
    refine j_iload C1 1304 0 rfl dL_law_1304 ?_
    refine j_i2l C1 1306 dL_law_1306 ?_
    refine j_lcmp C1 1307 dL_law_1307 ?_
    refine j_lc0 C1 1308 1313 e1 dL_law_1308 (by decide) ?_
    refine j_goto C1 1313 1495 dL_law_1313 (by decide) ?_
    refine j_L (L' := LL G b i) [2, 3, 4, 5, 6] rfl ?_
    exact kk _
  · rw [if_neg e0]
    refine j_if_ne1 C1 1298 1313 e0 dL_law_1298 (by decide) ?_
    refine j_goto C1 1313 1495 dL_law_1313 (by decide) ?_
    refine j_L (L' := LL G b i) [2, 3, 4, 5, 6] rfl ?_
    exact kk _
/-- L_ifStarted -/
def g_23 (Ln : Nat) (sc : Nat → Int32) (i : Int32) (v : VA) (K : VA → Option Unit) : Option Unit :=
  (ard Ln sc (i + 1)).bind fun a1 =>
  (ard Ln sc (i + 2)).bind fun a2 =>
  (f_L_ifStarted v.1 v.2.2 a1 a2).bind fun r =>
  (f_X6_ifStarted v.2.1 a1 a2).bind fun q =>
  (f_X6_thrown q.2).bind fun t =>
  if t = r.1 then (
  if r.1 = 0 then (if r.2.2 0 = q.1.toInt64 then K (r.2.1, (q.2, r.2.2)) else none) else K (r.2.1, (q.2, r.2.2))) else none
set_option maxRecDepth 100000 in
set_option maxHeartbeats 4000000 in
theorem wg_23 {G : GG} {sa : Nat → Nat} {X : WX} {Q : Unit → State → Prop} {b Ln : Nat} {sc : Nat → Int32} (C : Cx G 9 X RL cL_law 12) (hX : XK G sa (xs X).heap.size (xs X) (xs X).heap) (hS0 : Scr G X b Ln sc) (hc1 : xk X + 1 ≤ (xR X).cells) (hc2 : xz X + 6 ≤ (xR X).slots) (hl : (xl X).stackTraces = false) (i : Int32) (v : VA) (K : VA → Option Unit) (kk : ∀ v, JS G 9 (xup X) Q (K v) v 1495 (LL G b i) []) : JS G 9 X Q (g_23 Ln sc i v K) v 1316 (LL G b i) [] := by
  unfold g_23
  refine j_V (V' := (v.1, (v.2.1, v.2.2))) rfl ?_
  refine j_aload_n C 1316 3 rfl dL_law_1316 ?_
  refine j_aload_n C 1317 4 rfl dL_law_1317 ?_
  refine j_iload C 1318 0 rfl dL_law_1318 ?_
  refine j_iconst (v := 1) C 1320 dL_law_1320 rfl ?_
  refine j_iadd C 1321 dL_law_1321 ?_
  refine j_bind (fun a1 h1 => ?_)
  refine j_sld C hS0 1322 h1 dL_law_1322 ?_
  refine j_aload_n C 1323 4 rfl dL_law_1323 ?_
  refine j_iload C 1324 0 rfl dL_law_1324 ?_
  refine j_iconst (v := 2) C 1326 dL_law_1326 rfl ?_
  refine j_iadd C 1327 dL_law_1327 ?_
  refine j_bind (fun a2 h2 => ?_)
  refine j_sld C hS0 1328 h2 dL_law_1328 ?_
  refine j_aload_n C 1329 1 rfl dL_law_1329 ?_
  refine j_bind (fun r hr => ?_)
  refine j_callW (As := [.ref (G.2.2 0), .int a1, .int a2, .ref (G.2.2 120)]) (st := []) C hX hc1 hc2 kw_L_ifStarted 1330 (c_L_ifStarted C.2.2.2.2.2.2.1 hl _ _ _ _ _ hr) ml_L_165 st_L_ifStarted dL_law_1330 (by decide) rfl (Nat.le_of_ble_eq_true rfl) ?_ rfl
  have C1 := C.up hc1 hc2
  refine j_V (V' := (r.2.1, (v.2.1, r.2.2))) rfl ?_
  refine j_istore (L1 := [(5, .int r.1), (4, .int i), (3, .ref (G.2.2 120)), (2, .ref (G.2.2 114)), (1, .ref (G.2.2 0)), (0, .ref b)]) C1 1333 dL_law_1333 (by decide) rfl ?_
  refine j_aload_n C1 1335 3 rfl dL_law_1335 ?_
  refine j_aload_n C1 1336 5 rfl dL_law_1336 ?_
  refine j_iload C1 1337 1 rfl dL_law_1337 ?_
  refine j_iconst (v := 1) C1 1339 dL_law_1339 rfl ?_
  refine j_iadd C1 1340 dL_law_1340 ?_
  refine j_sld C1 hS0 1341 h1 dL_law_1341 ?_
  refine j_aload_n C1 1342 5 rfl dL_law_1342 ?_
  refine j_iload C1 1343 1 rfl dL_law_1343 ?_
  refine j_iconst (v := 2) C1 1345 dL_law_1345 rfl ?_
  refine j_iadd C1 1346 dL_law_1346 ?_
  refine j_sld C1 hS0 1347 h2 dL_law_1347 ?_
  refine j_bind (fun q hq => ?_)
  refine j_vMo_i (As := [.int a1, .int a2]) (st := []) C1 k_X6_ifStarted 1348 (c_X6_ifStarted C.2.2.2.2.2.2.1 _ _ _ hq) rfl rfl ml_L_167 ii_X6_ifStarted is_X6_ifStarted dL_law_1348 (by decide) rfl (Nat.le_of_ble_eq_true rfl) ?_ rfl
  refine j_V (V' := (r.2.1, (q.2, r.2.2))) rfl ?_
  refine j_istore (L1 := [(6, .int q.1), (5, .int r.1), (4, .int i), (3, .ref (G.2.2 120)), (2, .ref (G.2.2 114)), (1, .ref (G.2.2 0)), (0, .ref b)]) C1 1351 dL_law_1351 (by decide) rfl ?_
  refine j_aload_n C1 1353 4 rfl dL_law_1353 ?_
  refine j_bind (fun t ht => ?_)
  refine j_vMo_i (As := []) (st := []) C1 k_X6_thrown 1354 (c_X6_thrown C.2.2.2.2.2.2.1 _ ht) rfl rfl ml_L_89 ii_X6_thrown is_X6_thrown dL_law_1354 (by decide) rfl (Nat.le_of_ble_eq_true rfl) ?_ rfl
  refine j_iload C1 1357 1 rfl dL_law_1357 ?_
  refine j_drop2 (fun e1359 => ?_)
  refine j_icmp_eq1 C1 1359 1364 e1359 dL_law_1359 (by decide) ?_
  refine j_iload C1 1364 1 rfl dL_law_1364 ?_
  by_cases e0 : r.1 = 0
  · rw [if_pos e0]
    refine j_drop2 (fun e1 => ?_)
    refine j_if_ne0 C1 1366 1381 e0 dL_law_1366 (by decide) ?_
    refine j_aload_n C1 1369 3 rfl dL_law_1369 ?_
    refine j_iconst (v := 0) C1 1370 dL_law_1370 rfl ?_
    refine j_old C1 1371 dL_law_1371 ?_
    refine j_iload C1 1372 0 rfl dL_law_1372 ?_
    refine j_i2l C1 1374 dL_law_1374 ?_
    refine j_lcmp C1 1375 dL_law_1375 ?_
    refine j_lc0 C1 1376 1381 e1 dL_law_1376 (by decide) ?_
    refine j_goto C1 1381 1495 dL_law_1381 (by decide) ?_
    refine j_L (L' := LL G b i) [2, 3, 4, 5, 6] rfl ?_
    exact kk _
  · rw [if_neg e0]
    refine j_if_ne1 C1 1366 1381 e0 dL_law_1366 (by decide) ?_
    refine j_goto C1 1381 1495 dL_law_1381 (by decide) ?_
    refine j_L (L' := LL G b i) [2, 3, 4, 5, 6] rfl ?_
    exact kk _
/-- V_bestChange -/
def g_24 (Ln : Nat) (sc : Nat → Int32) (i : Int32) (v : VA) (K : VA → Option Unit) : Option Unit :=
  (f_X5_bestChange v.1).bind fun r =>
  (f_X6_bestChange v.2.1).bind fun q =>
  if r = q.1 then (
  K (v.1, (q.2, v.2.2))) else none
set_option maxRecDepth 100000 in
set_option maxHeartbeats 4000000 in
theorem wg_24 {G : GG} {sa : Nat → Nat} {X : WX} {Q : Unit → State → Prop} {b Ln : Nat} {sc : Nat → Int32} (C : Cx G 9 X RL cL_law 12) (hX : XK G sa (xs X).heap.size (xs X) (xs X).heap) (hS0 : Scr G X b Ln sc) (hc1 : xk X + 1 ≤ (xR X).cells) (hc2 : xz X + 6 ≤ (xR X).slots) (hl : (xl X).stackTraces = false) (i : Int32) (v : VA) (K : VA → Option Unit) (kk : ∀ v, JS G 9 (xup X) Q (K v) v 1495 (LL G b i) []) : JS G 9 X Q (g_24 Ln sc i v K) v 1384 (LL G b i) [] := by
  unfold g_24
  refine j_V (V' := (v.1, (v.2.1, v.2.2))) rfl ?_
  refine j_aload_n C 1384 3 rfl dL_law_1384 ?_
  refine j_bind (fun r hr => ?_)
  refine j_vSp_i (As := []) (st := []) C k_X5_bestChange 1385 (c_X5_bestChange C.2.2.2.2.2.2.1 _ hr) rfl rfl ml_L_168 ii_X5_bestChange is_X5_bestChange dL_law_1385 (by decide) rfl (Nat.le_of_ble_eq_true rfl) ?_ rfl
  refine j_aload_n C 1388 2 rfl dL_law_1388 ?_
  refine j_bind (fun q hq => ?_)
  refine j_vMo_i (As := []) (st := [.int r]) C k_X6_bestChange 1389 (c_X6_bestChange C.2.2.2.2.2.2.1 _ hq) rfl rfl ml_L_171 ii_X6_bestChange is_X6_bestChange dL_law_1389 (by decide) rfl (Nat.le_of_ble_eq_true rfl) ?_ rfl
  refine j_V (V' := (v.1, (q.2, v.2.2))) rfl ?_
  refine j_drop2 (fun e1392 => ?_)
  refine j_icmp_eq1 C 1392 1495 e1392 dL_law_1392 (by decide) ?_
  refine j_xup ?_
  exact kk _
/-- V_wideShare -/
def g_25 (Ln : Nat) (sc : Nat → Int32) (i : Int32) (v : VA) (K : VA → Option Unit) : Option Unit :=
  (f_X5_wideShare v.1).bind fun r =>
  (f_X6_wideShare v.2.1).bind fun q =>
  if Op.cmpValue (FP.dcmp r q.1) .l = 0 then (
  K (v.1, (q.2, v.2.2))) else none
set_option maxRecDepth 100000 in
set_option maxHeartbeats 4000000 in
theorem wg_25 {G : GG} {sa : Nat → Nat} {X : WX} {Q : Unit → State → Prop} {b Ln : Nat} {sc : Nat → Int32} (C : Cx G 9 X RL cL_law 12) (hX : XK G sa (xs X).heap.size (xs X) (xs X).heap) (hS0 : Scr G X b Ln sc) (hc1 : xk X + 1 ≤ (xR X).cells) (hc2 : xz X + 6 ≤ (xR X).slots) (hl : (xl X).stackTraces = false) (i : Int32) (v : VA) (K : VA → Option Unit) (kk : ∀ v, JS G 9 (xup X) Q (K v) v 1495 (LL G b i) []) : JS G 9 X Q (g_25 Ln sc i v K) v 1397 (LL G b i) [] := by
  unfold g_25
  refine j_V (V' := (v.1, (v.2.1, v.2.2))) rfl ?_
  refine j_aload_n C 1397 3 rfl dL_law_1397 ?_
  refine j_bind (fun r hr => ?_)
  refine j_vSp_d (As := []) (st := []) C k_X5_wideShare 1398 (c_X5_wideShare C.2.2.2.2.2.2.1 _ hr) rfl rfl ml_L_172 ii_X5_wideShare is_X5_wideShare dL_law_1398 (by decide) rfl (Nat.le_of_ble_eq_true rfl) ?_ rfl
  refine j_dstore (L1 := [(5, .double r), (4, .int i), (3, .ref (G.2.2 120)), (2, .ref (G.2.2 114)), (1, .ref (G.2.2 0)), (0, .ref b)]) C 1401 dL_law_1401 (by decide) rfl ?_
  refine j_aload_n C 1403 3 rfl dL_law_1403 ?_
  refine j_bind (fun q hq => ?_)
  refine j_vMo_d (As := []) (st := []) C k_X6_wideShare 1404 (c_X6_wideShare C.2.2.2.2.2.2.1 _ hq) rfl rfl ml_L_176 ii_X6_wideShare is_X6_wideShare dL_law_1404 (by decide) rfl (Nat.le_of_ble_eq_true rfl) ?_ rfl
  refine j_V (V' := (v.1, (q.2, v.2.2))) rfl ?_
  refine j_dstore (L1 := [(7, .double q.1), (5, .double r), (4, .int i), (3, .ref (G.2.2 120)), (2, .ref (G.2.2 114)), (1, .ref (G.2.2 0)), (0, .ref b)]) C 1407 dL_law_1407 (by decide) rfl ?_
  refine j_dload C 1409 1 rfl dL_law_1409 ?_
  refine j_dload C 1411 0 rfl dL_law_1411 ?_
  refine j_dcmp C 1413 dL_law_1413 ?_
  refine j_drop2 (fun e1 => ?_)
  refine j_if_eq0 C 1414 1435 e1 dL_law_1414 (by decide) ?_
  refine j_goto C 1435 1495 dL_law_1435 (by decide) ?_
  refine j_L (L' := LL G b i) [2, 3, 4, 5, 6] rfl ?_
  refine j_xup ?_
  exact kk _
/-- V_meanTicks -/
def g_26 (Ln : Nat) (sc : Nat → Int32) (i : Int32) (v : VA) (K : VA → Option Unit) : Option Unit :=
  (f_X5_meanTicks v.1).bind fun r =>
  (dck (FP.f2d r)).bind fun d2 =>
  (f_X6_meanTicks v.2.1).bind fun q =>
  (dck (FP.f2d q.1)).bind fun d4 =>
  if Op.cmpValue (FP.dcmp d2 d4) .l = 0 then (
  K (v.1, (q.2, v.2.2))) else none
set_option maxRecDepth 100000 in
set_option maxHeartbeats 4000000 in
theorem wg_26 {G : GG} {sa : Nat → Nat} {X : WX} {Q : Unit → State → Prop} {b Ln : Nat} {sc : Nat → Int32} (C : Cx G 9 X RL cL_law 12) (hX : XK G sa (xs X).heap.size (xs X) (xs X).heap) (hS0 : Scr G X b Ln sc) (hc1 : xk X + 1 ≤ (xR X).cells) (hc2 : xz X + 6 ≤ (xR X).slots) (hl : (xl X).stackTraces = false) (i : Int32) (v : VA) (K : VA → Option Unit) (kk : ∀ v, JS G 9 (xup X) Q (K v) v 1495 (LL G b i) []) : JS G 9 X Q (g_26 Ln sc i v K) v 1438 (LL G b i) [] := by
  unfold g_26
  refine j_V (V' := (v.1, (v.2.1, v.2.2))) rfl ?_
  refine j_aload_n C 1438 3 rfl dL_law_1438 ?_
  refine j_bind (fun r hr => ?_)
  refine j_vSp_f (As := []) (st := []) C k_X5_meanTicks 1439 (c_X5_meanTicks C.2.2.2.2.2.2.1 _ hr) rfl rfl ml_L_177 ii_X5_meanTicks is_X5_meanTicks dL_law_1439 (by decide) rfl (Nat.le_of_ble_eq_true rfl) ?_ rfl
  refine j_bind (fun d2 hd2 => ?_)
  refine j_f2d C 1442 hd2 dL_law_1442 ?_
  refine j_dstore (L1 := [(5, .double d2), (4, .int i), (3, .ref (G.2.2 120)), (2, .ref (G.2.2 114)), (1, .ref (G.2.2 0)), (0, .ref b)]) C 1443 dL_law_1443 (by decide) rfl ?_
  refine j_aload_n C 1445 3 rfl dL_law_1445 ?_
  refine j_bind (fun q hq => ?_)
  refine j_vMo_f (As := []) (st := []) C k_X6_meanTicks 1446 (c_X6_meanTicks C.2.2.2.2.2.2.1 _ hq) rfl rfl ml_L_181 ii_X6_meanTicks is_X6_meanTicks dL_law_1446 (by decide) rfl (Nat.le_of_ble_eq_true rfl) ?_ rfl
  refine j_V (V' := (v.1, (q.2, v.2.2))) rfl ?_
  refine j_bind (fun d4 hd4 => ?_)
  refine j_f2d C 1449 hd4 dL_law_1449 ?_
  refine j_dstore (L1 := [(7, .double d4), (5, .double d2), (4, .int i), (3, .ref (G.2.2 120)), (2, .ref (G.2.2 114)), (1, .ref (G.2.2 0)), (0, .ref b)]) C 1450 dL_law_1450 (by decide) rfl ?_
  refine j_dload C 1452 1 rfl dL_law_1452 ?_
  refine j_dload C 1454 0 rfl dL_law_1454 ?_
  refine j_dcmp C 1456 dL_law_1456 ?_
  refine j_drop2 (fun e1 => ?_)
  refine j_if_eq0 C 1457 1478 e1 dL_law_1457 (by decide) ?_
  refine j_goto C 1478 1495 dL_law_1478 (by decide) ?_
  refine j_L (L' := LL G b i) [2, 3, 4, 5, 6] rfl ?_
  refine j_xup ?_
  exact kk _
/-- V_digest -/
def g_27 (Ln : Nat) (sc : Nat → Int32) (i : Int32) (v : VA) (K : VA → Option Unit) : Option Unit :=
  (f_X5_digest v.1).bind fun r =>
  (f_X6_digest v.2.1).bind fun q =>
  if r.1 = q.1 then (
  K (r.2, (q.2, v.2.2))) else none
set_option maxRecDepth 100000 in
set_option maxHeartbeats 4000000 in
theorem wg_27 {G : GG} {sa : Nat → Nat} {X : WX} {Q : Unit → State → Prop} {b Ln : Nat} {sc : Nat → Int32} (C : Cx G 9 X RL cL_law 12) (hX : XK G sa (xs X).heap.size (xs X) (xs X).heap) (hS0 : Scr G X b Ln sc) (hc1 : xk X + 1 ≤ (xR X).cells) (hc2 : xz X + 6 ≤ (xR X).slots) (hl : (xl X).stackTraces = false) (i : Int32) (v : VA) (K : VA → Option Unit) (kk : ∀ v, JS G 9 (xup X) Q (K v) v 1495 (LL G b i) []) : JS G 9 X Q (g_27 Ln sc i v K) v 1481 (LL G b i) [] := by
  unfold g_27
  refine j_V (V' := (v.1, (v.2.1, v.2.2))) rfl ?_
  refine j_aload_n C 1481 3 rfl dL_law_1481 ?_
  refine j_bind (fun r hr => ?_)
  refine j_vSp_l (As := []) (st := []) C k_X5_digest 1482 (c_X5_digest C.2.2.2.2.2.2.1 _ hr) rfl rfl ml_L_182 ii_X5_digest is_X5_digest dL_law_1482 (by decide) rfl (Nat.le_of_ble_eq_true rfl) ?_ rfl
  refine j_V (V' := (r.2, (v.2.1, v.2.2))) rfl ?_
  refine j_aload_n C 1485 2 rfl dL_law_1485 ?_
  refine j_bind (fun q hq => ?_)
  refine j_vMo_l (As := []) (st := [.long r.1]) C k_X6_digest 1486 (c_X6_digest C.2.2.2.2.2.2.1 _ hq) rfl rfl ml_L_186 ii_X6_digest is_X6_digest dL_law_1486 (by decide) rfl (Nat.le_of_ble_eq_true rfl) ?_ rfl
  refine j_V (V' := (r.2, (q.2, v.2.2))) rfl ?_
  refine j_lcmp C 1489 dL_law_1489 ?_
  refine j_drop2 (fun e1 => ?_)
  refine j_lc0 C 1490 1495 e1 dL_law_1490 (by decide) ?_
  refine j_xup ?_
  exact kk _
def xupn : Nat → WX → WX
  | 0, X => X
  | n + 1, X => xupn n (xup X)
theorem xupn_s (n : Nat) (X : WX) : xupn (n + 1) X = xupn n (xup X) := rfl
def g_law (Ln : Nat) (sc : Nat → Int32) : Nat → Int32 → VA → Option Unit
  | 0, _, _ => none
  | n + 1, i, v =>
    if Int32.ofNat Ln - 5 < i then some () else
    (ard Ln sc i).bind fun a0 =>
    if a0 &&& 31 = 0 then g_0 Ln sc i v (fun v => g_law Ln sc n (i + 5) v) else
    if a0 &&& 31 = 1 then g_1 Ln sc i v (fun v => g_law Ln sc n (i + 5) v) else
    if a0 &&& 31 = 2 then g_2 Ln sc i v (fun v => g_law Ln sc n (i + 5) v) else
    if a0 &&& 31 = 3 then g_3 Ln sc i v (fun v => g_law Ln sc n (i + 5) v) else
    if a0 &&& 31 = 4 then g_4 Ln sc i v (fun v => g_law Ln sc n (i + 5) v) else
    if a0 &&& 31 = 5 then g_5 Ln sc i v (fun v => g_law Ln sc n (i + 5) v) else
    if a0 &&& 31 = 6 then g_6 Ln sc i v (fun v => g_law Ln sc n (i + 5) v) else
    if a0 &&& 31 = 7 then g_7 Ln sc i v (fun v => g_law Ln sc n (i + 5) v) else
    if a0 &&& 31 = 8 then g_8 Ln sc i v (fun v => g_law Ln sc n (i + 5) v) else
    if a0 &&& 31 = 9 then g_9 Ln sc i v (fun v => g_law Ln sc n (i + 5) v) else
    if a0 &&& 31 = 10 then g_10 Ln sc i v (fun v => g_law Ln sc n (i + 5) v) else
    if a0 &&& 31 = 11 then g_11 Ln sc i v (fun v => g_law Ln sc n (i + 5) v) else
    if a0 &&& 31 = 12 then g_12 Ln sc i v (fun v => g_law Ln sc n (i + 5) v) else
    if a0 &&& 31 = 13 then g_13 Ln sc i v (fun v => g_law Ln sc n (i + 5) v) else
    if a0 &&& 31 = 14 then g_14 Ln sc i v (fun v => g_law Ln sc n (i + 5) v) else
    if a0 &&& 31 = 15 then g_15 Ln sc i v (fun v => g_law Ln sc n (i + 5) v) else
    if a0 &&& 31 = 16 then g_16 Ln sc i v (fun v => g_law Ln sc n (i + 5) v) else
    if a0 &&& 31 = 17 then g_17 Ln sc i v (fun v => g_law Ln sc n (i + 5) v) else
    if a0 &&& 31 = 18 then g_18 Ln sc i v (fun v => g_law Ln sc n (i + 5) v) else
    if a0 &&& 31 = 19 then g_19 Ln sc i v (fun v => g_law Ln sc n (i + 5) v) else
    if a0 &&& 31 = 20 then g_20 Ln sc i v (fun v => g_law Ln sc n (i + 5) v) else
    if a0 &&& 31 = 21 then g_21 Ln sc i v (fun v => g_law Ln sc n (i + 5) v) else
    if a0 &&& 31 = 22 then g_22 Ln sc i v (fun v => g_law Ln sc n (i + 5) v) else
    if a0 &&& 31 = 23 then g_23 Ln sc i v (fun v => g_law Ln sc n (i + 5) v) else
    if a0 &&& 31 = 24 then g_24 Ln sc i v (fun v => g_law Ln sc n (i + 5) v) else
    if a0 &&& 31 = 25 then g_25 Ln sc i v (fun v => g_law Ln sc n (i + 5) v) else
    if a0 &&& 31 = 26 then g_26 Ln sc i v (fun v => g_law Ln sc n (i + 5) v) else
    if a0 &&& 31 = 27 then g_27 Ln sc i v (fun v => g_law Ln sc n (i + 5) v) else
    g_law Ln sc n (i + 5) v
set_option maxRecDepth 100000 in
set_option maxHeartbeats 4000000 in
theorem wl_law {G : GG} {sa : Nat → Nat} {Q : Unit → State → Prop} {b Ln : Nat} {sc : Nat → Int32} : ∀ (n : Nat) (X : WX) (_ : Cx G 9 X RL cL_law 12) (_ : XK G sa (xs X).heap.size (xs X) (xs X).heap) (_ : Scr G X b Ln sc) (_ : xk X + n ≤ (xR X).cells) (_ : xz X + 6 * n ≤ (xR X).slots) (_ : (xl X).stackTraces = false)
    (hend : ∀ (j : Nat) (V : VA) (i : Int32), j ≤ n → JS G 9 (xupn j X) Q (some ()) V 1502 (LL G b i) [.int 1]) (i : Int32) (v : VA), JS G 9 X Q (g_law Ln sc n i v) v 23 (LL G b i) [] := by
  intro n
  induction n with
  | zero => intro X C hX hS0 h1 h2 hl hend i v; exact j_none
  | succ n ih =>
    intro X C hX hS0 h1 h2 hl hend i v
    unfold g_law
    have kk : ∀ (i : Int32) (v : VA), JS G 9 (xup X) Q (g_law Ln sc n (i + 5) v) v 1495 (LL G b i) [] := by
      intro i v
      have C1 := C.up (by omega) (by omega)
      refine j_iinc (L1 := LL G b (i + 5)) (v := i + 5) C1 1495 0 rfl dL_law_1495 (by rfl) (by decide) rfl ?_
      refine j_goto C1 1498 23 dL_law_1498 (by decide) ?_
      exact ih (xup X) C1 hX hS0 (by show xk X + 1 + n ≤ (xR X).cells; omega) (by show xz X + 6 + 6 * n ≤ (xR X).slots; omega) hl (fun j V i hj => by
        have := hend (j + 1) V i (by omega)
        rwa [xupn_s] at this) (i + 5) v
    refine j_iload C 23 0 rfl dL_law_23 ?_
    refine j_aload_n C 25 4 rfl dL_law_25 ?_
    refine j_slen C hS0 26 dL_law_26 ?_
    refine j_iconst (v := 5) C 27 dL_law_27 rfl ?_
    refine j_isub C 28 dL_law_28 ?_
    refine j_icmp_gt C 29 1501 dL_law_29 (by decide) (fun _ => ?_) (fun _ => ?_)
    · refine j_iconst (v := 1) C 1501 dL_law_1501 rfl ?_
      exact hend 0 v i (Nat.zero_le _)
    refine j_aload_n C 32 4 rfl dL_law_32 ?_
    refine j_iload C 33 0 rfl dL_law_33 ?_
    refine j_bind (fun a0 h0 => ?_)
    refine j_sld C hS0 35 h0 dL_law_35 ?_
    refine j_bipush (v := 31) C 36 dL_law_36 rfl ?_
    refine j_iand C 38 dL_law_38 ?_
    refine j_case (n := 0) (off := 125) C 39 164 dL_law_39 (by decide) (by decide) (by decide) (fun _ => ?_) (fun c_0 => ?_)
    · exact wg_0 C hX hS0 (by omega) (by omega) hl i v _ (fun v => kk i v)
    refine j_case (n := 1) (off := 217) C 39 256 dL_law_39 (by decide) (by decide) (by decide) (fun _ => ?_) (fun c_1 => ?_)
    · exact wg_1 C hX hS0 (by omega) (by omega) hl i v _ (fun v => kk i v)
    refine j_case (n := 2) (off := 273) C 39 312 dL_law_39 (by decide) (by decide) (by decide) (fun _ => ?_) (fun c_2 => ?_)
    · exact wg_2 C hX hS0 (by omega) (by omega) hl i v _ (fun v => kk i v)
    refine j_case (n := 3) (off := 329) C 39 368 dL_law_39 (by decide) (by decide) (by decide) (fun _ => ?_) (fun c_3 => ?_)
    · exact wg_3 C hX hS0 (by omega) (by omega) hl i v _ (fun v => kk i v)
    refine j_case (n := 4) (off := 373) C 39 412 dL_law_39 (by decide) (by decide) (by decide) (fun _ => ?_) (fun c_4 => ?_)
    · exact wg_4 C hX hS0 (by omega) (by omega) hl i v _ (fun v => kk i v)
    refine j_case (n := 5) (off := 417) C 39 456 dL_law_39 (by decide) (by decide) (by decide) (fun _ => ?_) (fun c_5 => ?_)
    · exact wg_5 C hX hS0 (by omega) (by omega) hl i v _ (fun v => kk i v)
    refine j_case (n := 6) (off := 485) C 39 524 dL_law_39 (by decide) (by decide) (by decide) (fun _ => ?_) (fun c_6 => ?_)
    · exact wg_6 C hX hS0 (by omega) (by omega) hl i v _ (fun v => kk i v)
    refine j_case (n := 7) (off := 541) C 39 580 dL_law_39 (by decide) (by decide) (by decide) (fun _ => ?_) (fun c_7 => ?_)
    · exact wg_7 C hX hS0 (by omega) (by omega) hl i v _ (fun v => kk i v)
    refine j_case (n := 8) (off := 597) C 39 636 dL_law_39 (by decide) (by decide) (by decide) (fun _ => ?_) (fun c_8 => ?_)
    · exact wg_8 C hX hS0 (by omega) (by omega) hl i v _ (fun v => kk i v)
    refine j_case (n := 9) (off := 665) C 39 704 dL_law_39 (by decide) (by decide) (by decide) (fun _ => ?_) (fun c_9 => ?_)
    · exact wg_9 C hX hS0 (by omega) (by omega) hl i v _ (fun v => kk i v)
    refine j_case (n := 10) (off := 721) C 39 760 dL_law_39 (by decide) (by decide) (by decide) (fun _ => ?_) (fun c_10 => ?_)
    · exact wg_10 C hX hS0 (by omega) (by omega) hl i v _ (fun v => kk i v)
    refine j_case (n := 11) (off := 734) C 39 773 dL_law_39 (by decide) (by decide) (by decide) (fun _ => ?_) (fun c_11 => ?_)
    · exact wg_11 C hX hS0 (by omega) (by omega) hl i v _ (fun v => kk i v)
    refine j_case (n := 12) (off := 747) C 39 786 dL_law_39 (by decide) (by decide) (by decide) (fun _ => ?_) (fun c_12 => ?_)
    · exact wg_12 C hX hS0 (by omega) (by omega) hl i v _ (fun v => kk i v)
    refine j_case (n := 13) (off := 791) C 39 830 dL_law_39 (by decide) (by decide) (by decide) (fun _ => ?_) (fun c_13 => ?_)
    · exact wg_13 C hX hS0 (by omega) (by omega) hl i v _ (fun v => kk i v)
    refine j_case (n := 14) (off := 804) C 39 843 dL_law_39 (by decide) (by decide) (by decide) (fun _ => ?_) (fun c_14 => ?_)
    · exact wg_14 C hX hS0 (by omega) (by omega) hl i v _ (fun v => kk i v)
    refine j_case (n := 15) (off := 848) C 39 887 dL_law_39 (by decide) (by decide) (by decide) (fun _ => ?_) (fun c_15 => ?_)
    · exact wg_15 C hX hS0 (by omega) (by omega) hl i v _ (fun v => kk i v)
    refine j_case (n := 16) (off := 892) C 39 931 dL_law_39 (by decide) (by decide) (by decide) (fun _ => ?_) (fun c_16 => ?_)
    · exact wg_16 C hX hS0 (by omega) (by omega) hl i v _ (fun v => kk i v)
    refine j_case (n := 17) (off := 960) C 39 999 dL_law_39 (by decide) (by decide) (by decide) (fun _ => ?_) (fun c_17 => ?_)
    · exact wg_17 C hX hS0 (by omega) (by omega) hl i v _ (fun v => kk i v)
    refine j_case (n := 18) (off := 1028) C 39 1067 dL_law_39 (by decide) (by decide) (by decide) (fun _ => ?_) (fun c_18 => ?_)
    · exact wg_18 C hX hS0 (by omega) (by omega) hl i v _ (fun v => kk i v)
    refine j_case (n := 19) (off := 1096) C 39 1135 dL_law_39 (by decide) (by decide) (by decide) (fun _ => ?_) (fun c_19 => ?_)
    · exact wg_19 C hX hS0 (by omega) (by omega) hl i v _ (fun v => kk i v)
    refine j_case (n := 20) (off := 1152) C 39 1191 dL_law_39 (by decide) (by decide) (by decide) (fun _ => ?_) (fun c_20 => ?_)
    · exact wg_20 C hX hS0 (by omega) (by omega) hl i v _ (fun v => kk i v)
    refine j_case (n := 21) (off := 1208) C 39 1247 dL_law_39 (by decide) (by decide) (by decide) (fun _ => ?_) (fun c_21 => ?_)
    · exact wg_21 C hX hS0 (by omega) (by omega) hl i v _ (fun v => kk i v)
    refine j_case (n := 22) (off := 1221) C 39 1260 dL_law_39 (by decide) (by decide) (by decide) (fun _ => ?_) (fun c_22 => ?_)
    · exact wg_22 C hX hS0 (by omega) (by omega) hl i v _ (fun v => kk i v)
    refine j_case (n := 23) (off := 1277) C 39 1316 dL_law_39 (by decide) (by decide) (by decide) (fun _ => ?_) (fun c_23 => ?_)
    · exact wg_23 C hX hS0 (by omega) (by omega) hl i v _ (fun v => kk i v)
    refine j_case (n := 24) (off := 1345) C 39 1384 dL_law_39 (by decide) (by decide) (by decide) (fun _ => ?_) (fun c_24 => ?_)
    · exact wg_24 C hX hS0 (by omega) (by omega) hl i v _ (fun v => kk i v)
    refine j_case (n := 25) (off := 1358) C 39 1397 dL_law_39 (by decide) (by decide) (by decide) (fun _ => ?_) (fun c_25 => ?_)
    · exact wg_25 C hX hS0 (by omega) (by omega) hl i v _ (fun v => kk i v)
    refine j_case (n := 26) (off := 1399) C 39 1438 dL_law_39 (by decide) (by decide) (by decide) (fun _ => ?_) (fun c_26 => ?_)
    · exact wg_26 C hX hS0 (by omega) (by omega) hl i v _ (fun v => kk i v)
    refine j_case (n := 27) (off := 1442) C 39 1481 dL_law_39 (by decide) (by decide) (by decide) (fun _ => ?_) (fun c_27 => ?_)
    · exact wg_27 C hX hS0 (by omega) (by omega) hl i v _ (fun v => kk i v)
    refine j_dflt C 39 1495 dL_law_39 (by decide) (fun z h1 h2 e => ?_) (j_xup (kk i v))
    rcases (show z = 0 ∨ z = 1 ∨ z = 2 ∨ z = 3 ∨ z = 4 ∨ z = 5 ∨ z = 6 ∨ z = 7 ∨ z = 8 ∨ z = 9 ∨ z = 10 ∨ z = 11 ∨ z = 12 ∨ z = 13 ∨ z = 14 ∨ z = 15 ∨ z = 16 ∨ z = 17 ∨ z = 18 ∨ z = 19 ∨ z = 20 ∨ z = 21 ∨ z = 22 ∨ z = 23 ∨ z = 24 ∨ z = 25 ∨ z = 26 ∨ z = 27 by omega) with rfl | rfl | rfl | rfl | rfl | rfl | rfl | rfl | rfl | rfl | rfl | rfl | rfl | rfl | rfl | rfl | rfl | rfl | rfl | rfl | rfl | rfl | rfl | rfl | rfl | rfl | rfl | rfl
    · exact c_0 (Int32.toInt_inj.mp e)
    · exact c_1 (Int32.toInt_inj.mp e)
    · exact c_2 (Int32.toInt_inj.mp e)
    · exact c_3 (Int32.toInt_inj.mp e)
    · exact c_4 (Int32.toInt_inj.mp e)
    · exact c_5 (Int32.toInt_inj.mp e)
    · exact c_6 (Int32.toInt_inj.mp e)
    · exact c_7 (Int32.toInt_inj.mp e)
    · exact c_8 (Int32.toInt_inj.mp e)
    · exact c_9 (Int32.toInt_inj.mp e)
    · exact c_10 (Int32.toInt_inj.mp e)
    · exact c_11 (Int32.toInt_inj.mp e)
    · exact c_12 (Int32.toInt_inj.mp e)
    · exact c_13 (Int32.toInt_inj.mp e)
    · exact c_14 (Int32.toInt_inj.mp e)
    · exact c_15 (Int32.toInt_inj.mp e)
    · exact c_16 (Int32.toInt_inj.mp e)
    · exact c_17 (Int32.toInt_inj.mp e)
    · exact c_18 (Int32.toInt_inj.mp e)
    · exact c_19 (Int32.toInt_inj.mp e)
    · exact c_20 (Int32.toInt_inj.mp e)
    · exact c_21 (Int32.toInt_inj.mp e)
    · exact c_22 (Int32.toInt_inj.mp e)
    · exact c_23 (Int32.toInt_inj.mp e)
    · exact c_24 (Int32.toInt_inj.mp e)
    · exact c_25 (Int32.toInt_inj.mp e)
    · exact c_26 (Int32.toInt_inj.mp e)
    · exact c_27 (Int32.toInt_inj.mp e)
