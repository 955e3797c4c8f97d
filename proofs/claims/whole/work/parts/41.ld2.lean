theorem dL_law_992 : decode code 992 = .ok (.iload_n 3, 1) := by decide +kernel
theorem dL_law_993 : decode code 993 = .ok (.iconst (1), 1) := by decide +kernel
theorem dL_law_994 : decode code 994 = .ok (.iadd, 1) := by decide +kernel
theorem dL_law_995 : decode code 995 = .ok (.iaload, 1) := by decide +kernel
theorem dL_law_996 : decode code 996 = .ok (.aload_n 0, 1) := by decide +kernel
theorem dL_law_997 : decode code 997 = .ok (.iload_n 3, 1) := by decide +kernel
theorem dL_law_998 : decode code 998 = .ok (.iconst (2), 1) := by decide +kernel
theorem dL_law_999 : decode code 999 = .ok (.iadd, 1) := by decide +kernel
theorem dL_law_1000 : decode code 1000 = .ok (.iaload, 1) := by decide +kernel
theorem dL_law_1001 : decode code 1001 = .ok (.aload_n 0, 1) := by decide +kernel
theorem dL_law_1002 : decode code 1002 = .ok (.iload_n 3, 1) := by decide +kernel
theorem dL_law_1003 : decode code 1003 = .ok (.iconst (3), 1) := by decide +kernel
theorem dL_law_1004 : decode code 1004 = .ok (.iadd, 1) := by decide +kernel
theorem dL_law_1005 : decode code 1005 = .ok (.iaload, 1) := by decide +kernel
theorem dL_law_1006 : decode code 1006 = .ok (.invokevirtual 125, 3) := by decide +kernel
theorem dL_law_1009 : decode code 1009 = .ok (.aload_n 2, 1) := by decide +kernel
theorem dL_law_1010 : decode code 1010 = .ok (.aload_n 0, 1) := by decide +kernel
theorem dL_law_1011 : decode code 1011 = .ok (.iload_n 3, 1) := by decide +kernel
theorem dL_law_1012 : decode code 1012 = .ok (.iconst (1), 1) := by decide +kernel
theorem dL_law_1013 : decode code 1013 = .ok (.iadd, 1) := by decide +kernel
theorem dL_law_1014 : decode code 1014 = .ok (.iaload, 1) := by decide +kernel
theorem dL_law_1015 : decode code 1015 = .ok (.aload_n 0, 1) := by decide +kernel
theorem dL_law_1016 : decode code 1016 = .ok (.iload_n 3, 1) := by decide +kernel
theorem dL_law_1017 : decode code 1017 = .ok (.iconst (2), 1) := by decide +kernel
theorem dL_law_1018 : decode code 1018 = .ok (.iadd, 1) := by decide +kernel
theorem dL_law_1019 : decode code 1019 = .ok (.iaload, 1) := by decide +kernel
theorem dL_law_1020 : decode code 1020 = .ok (.aload_n 0, 1) := by decide +kernel
theorem dL_law_1021 : decode code 1021 = .ok (.iload_n 3, 1) := by decide +kernel
theorem dL_law_1022 : decode code 1022 = .ok (.iconst (3), 1) := by decide +kernel
theorem dL_law_1023 : decode code 1023 = .ok (.iadd, 1) := by decide +kernel
theorem dL_law_1024 : decode code 1024 = .ok (.iaload, 1) := by decide +kernel
theorem dL_law_1025 : decode code 1025 = .ok (.invokevirtual 128, 3) := by decide +kernel
theorem dL_law_1028 : decode code 1028 = .ok (.if_icmp .eq (356), 3) := by decide +kernel
theorem dL_law_1031 : decode code 1031 = .ok (.iconst (0), 1) := by decide +kernel
theorem dL_law_1032 : decode code 1032 = .ok (.ireturn, 1) := by decide +kernel
theorem dL_law_1033 : decode code 1033 = .ok (.aload_n 1, 1) := by decide +kernel
theorem dL_law_1034 : decode code 1034 = .ok (.aload_n 0, 1) := by decide +kernel
theorem dL_law_1035 : decode code 1035 = .ok (.iload_n 3, 1) := by decide +kernel
theorem dL_law_1036 : decode code 1036 = .ok (.iconst (1), 1) := by decide +kernel
theorem dL_law_1037 : decode code 1037 = .ok (.iadd, 1) := by decide +kernel
theorem dL_law_1038 : decode code 1038 = .ok (.iaload, 1) := by decide +kernel
theorem dL_law_1039 : decode code 1039 = .ok (.aload_n 0, 1) := by decide +kernel
theorem dL_law_1040 : decode code 1040 = .ok (.iload_n 3, 1) := by decide +kernel
theorem dL_law_1041 : decode code 1041 = .ok (.iconst (2), 1) := by decide +kernel
theorem dL_law_1042 : decode code 1042 = .ok (.iadd, 1) := by decide +kernel
theorem dL_law_1043 : decode code 1043 = .ok (.iaload, 1) := by decide +kernel
theorem dL_law_1044 : decode code 1044 = .ok (.invokevirtual 129, 3) := by decide +kernel
theorem dL_law_1047 : decode code 1047 = .ok (.aload_n 2, 1) := by decide +kernel
theorem dL_law_1048 : decode code 1048 = .ok (.aload_n 0, 1) := by decide +kernel
theorem dL_law_1049 : decode code 1049 = .ok (.iload_n 3, 1) := by decide +kernel
theorem dL_law_1050 : decode code 1050 = .ok (.iconst (1), 1) := by decide +kernel
theorem dL_law_1051 : decode code 1051 = .ok (.iadd, 1) := by decide +kernel
theorem dL_law_1052 : decode code 1052 = .ok (.iaload, 1) := by decide +kernel
theorem dL_law_1053 : decode code 1053 = .ok (.aload_n 0, 1) := by decide +kernel
theorem dL_law_1054 : decode code 1054 = .ok (.iload_n 3, 1) := by decide +kernel
theorem dL_law_1055 : decode code 1055 = .ok (.iconst (2), 1) := by decide +kernel
theorem dL_law_1056 : decode code 1056 = .ok (.iadd, 1) := by decide +kernel
theorem dL_law_1057 : decode code 1057 = .ok (.iaload, 1) := by decide +kernel
theorem dL_law_1058 : decode code 1058 = .ok (.invokevirtual 133, 3) := by decide +kernel
theorem dL_law_1061 : decode code 1061 = .ok (.lcmp, 1) := by decide +kernel
theorem dL_law_1062 : decode code 1062 = .ok (.ifCond .eq (322), 3) := by decide +kernel
theorem dL_law_1065 : decode code 1065 = .ok (.iconst (0), 1) := by decide +kernel
theorem dL_law_1066 : decode code 1066 = .ok (.ireturn, 1) := by decide +kernel
theorem dL_law_1067 : decode code 1067 = .ok (.aload_n 1, 1) := by decide +kernel
theorem dL_law_1068 : decode code 1068 = .ok (.aload_n 0, 1) := by decide +kernel
theorem dL_law_1069 : decode code 1069 = .ok (.iload_n 3, 1) := by decide +kernel
theorem dL_law_1070 : decode code 1070 = .ok (.iconst (1), 1) := by decide +kernel
theorem dL_law_1071 : decode code 1071 = .ok (.iadd, 1) := by decide +kernel
theorem dL_law_1072 : decode code 1072 = .ok (.iaload, 1) := by decide +kernel
theorem dL_law_1073 : decode code 1073 = .ok (.aload_n 0, 1) := by decide +kernel
theorem dL_law_1074 : decode code 1074 = .ok (.iload_n 3, 1) := by decide +kernel
theorem dL_law_1075 : decode code 1075 = .ok (.iconst (2), 1) := by decide +kernel
theorem dL_law_1076 : decode code 1076 = .ok (.iadd, 1) := by decide +kernel
theorem dL_law_1077 : decode code 1077 = .ok (.iaload, 1) := by decide +kernel
theorem dL_law_1078 : decode code 1078 = .ok (.invokevirtual 134, 3) := by decide +kernel
theorem dL_law_1081 : decode code 1081 = .ok (.aload_n 2, 1) := by decide +kernel
theorem dL_law_1082 : decode code 1082 = .ok (.aload_n 0, 1) := by decide +kernel
theorem dL_law_1083 : decode code 1083 = .ok (.iload_n 3, 1) := by decide +kernel
theorem dL_law_1084 : decode code 1084 = .ok (.iconst (1), 1) := by decide +kernel
theorem dL_law_1085 : decode code 1085 = .ok (.iadd, 1) := by decide +kernel
theorem dL_law_1086 : decode code 1086 = .ok (.iaload, 1) := by decide +kernel
theorem dL_law_1087 : decode code 1087 = .ok (.aload_n 0, 1) := by decide +kernel
theorem dL_law_1088 : decode code 1088 = .ok (.iload_n 3, 1) := by decide +kernel
theorem dL_law_1089 : decode code 1089 = .ok (.iconst (2), 1) := by decide +kernel
theorem dL_law_1090 : decode code 1090 = .ok (.iadd, 1) := by decide +kernel
theorem dL_law_1091 : decode code 1091 = .ok (.iaload, 1) := by decide +kernel
theorem dL_law_1092 : decode code 1092 = .ok (.invokevirtual 137, 3) := by decide +kernel
theorem dL_law_1095 : decode code 1095 = .ok (.lcmp, 1) := by decide +kernel
theorem dL_law_1096 : decode code 1096 = .ok (.ifCond .eq (288), 3) := by decide +kernel
theorem dL_law_1099 : decode code 1099 = .ok (.iconst (0), 1) := by decide +kernel
theorem dL_law_1100 : decode code 1100 = .ok (.ireturn, 1) := by decide +kernel
theorem dL_law_1101 : decode code 1101 = .ok (.aload_n 1, 1) := by decide +kernel
theorem dL_law_1102 : decode code 1102 = .ok (.aload_n 0, 1) := by decide +kernel
theorem dL_law_1103 : decode code 1103 = .ok (.iload_n 3, 1) := by decide +kernel
theorem dL_law_1104 : decode code 1104 = .ok (.iconst (1), 1) := by decide +kernel
theorem dL_law_1105 : decode code 1105 = .ok (.iadd, 1) := by decide +kernel
theorem dL_law_1106 : decode code 1106 = .ok (.iaload, 1) := by decide +kernel
theorem dL_law_1107 : decode code 1107 = .ok (.invokevirtual 138, 3) := by decide +kernel
theorem dL_law_1110 : decode code 1110 = .ok (.aload_n 2, 1) := by decide +kernel
theorem dL_law_1111 : decode code 1111 = .ok (.aload_n 0, 1) := by decide +kernel
theorem dL_law_1112 : decode code 1112 = .ok (.iload_n 3, 1) := by decide +kernel
theorem dL_law_1113 : decode code 1113 = .ok (.iconst (1), 1) := by decide +kernel
theorem dL_law_1114 : decode code 1114 = .ok (.iadd, 1) := by decide +kernel
theorem dL_law_1115 : decode code 1115 = .ok (.iaload, 1) := by decide +kernel
theorem dL_law_1116 : decode code 1116 = .ok (.invokevirtual 141, 3) := by decide +kernel
theorem dL_law_1119 : decode code 1119 = .ok (.if_icmp .eq (265), 3) := by decide +kernel
theorem dL_law_1122 : decode code 1122 = .ok (.iconst (0), 1) := by decide +kernel
theorem dL_law_1123 : decode code 1123 = .ok (.ireturn, 1) := by decide +kernel
theorem dL_law_1124 : decode code 1124 = .ok (.aload_n 1, 1) := by decide +kernel
theorem dL_law_1125 : decode code 1125 = .ok (.aload_n 0, 1) := by decide +kernel
theorem dL_law_1126 : decode code 1126 = .ok (.iload_n 3, 1) := by decide +kernel
theorem dL_law_1127 : decode code 1127 = .ok (.iconst (1), 1) := by decide +kernel
theorem dL_law_1128 : decode code 1128 = .ok (.iadd, 1) := by decide +kernel
theorem dL_law_1129 : decode code 1129 = .ok (.iaload, 1) := by decide +kernel
theorem dL_law_1130 : decode code 1130 = .ok (.invokevirtual 142, 3) := by decide +kernel
theorem dL_law_1133 : decode code 1133 = .ok (.aload_n 2, 1) := by decide +kernel
theorem dL_law_1134 : decode code 1134 = .ok (.aload_n 0, 1) := by decide +kernel
theorem dL_law_1135 : decode code 1135 = .ok (.iload_n 3, 1) := by decide +kernel
theorem dL_law_1136 : decode code 1136 = .ok (.iconst (1), 1) := by decide +kernel
theorem dL_law_1137 : decode code 1137 = .ok (.iadd, 1) := by decide +kernel
theorem dL_law_1138 : decode code 1138 = .ok (.iaload, 1) := by decide +kernel
theorem dL_law_1139 : decode code 1139 = .ok (.invokevirtual 145, 3) := by decide +kernel
theorem dL_law_1142 : decode code 1142 = .ok (.if_icmp .eq (242), 3) := by decide +kernel
theorem dL_law_1145 : decode code 1145 = .ok (.iconst (0), 1) := by decide +kernel
theorem dL_law_1146 : decode code 1146 = .ok (.ireturn, 1) := by decide +kernel
theorem dL_law_1147 : decode code 1147 = .ok (.aload_n 1, 1) := by decide +kernel
theorem dL_law_1148 : decode code 1148 = .ok (.aload_n 0, 1) := by decide +kernel
theorem dL_law_1149 : decode code 1149 = .ok (.iload_n 3, 1) := by decide +kernel
theorem dL_law_1150 : decode code 1150 = .ok (.iconst (1), 1) := by decide +kernel
theorem dL_law_1151 : decode code 1151 = .ok (.iadd, 1) := by decide +kernel
theorem dL_law_1152 : decode code 1152 = .ok (.iaload, 1) := by decide +kernel
theorem dL_law_1153 : decode code 1153 = .ok (.aload_n 0, 1) := by decide +kernel
theorem dL_law_1154 : decode code 1154 = .ok (.iload_n 3, 1) := by decide +kernel
theorem dL_law_1155 : decode code 1155 = .ok (.iconst (2), 1) := by decide +kernel
theorem dL_law_1156 : decode code 1156 = .ok (.iadd, 1) := by decide +kernel
theorem dL_law_1157 : decode code 1157 = .ok (.iaload, 1) := by decide +kernel
theorem dL_law_1158 : decode code 1158 = .ok (.invokevirtual 146, 3) := by decide +kernel
theorem dL_law_1161 : decode code 1161 = .ok (.aload_n 2, 1) := by decide +kernel
theorem dL_law_1162 : decode code 1162 = .ok (.aload_n 0, 1) := by decide +kernel
theorem dL_law_1163 : decode code 1163 = .ok (.iload_n 3, 1) := by decide +kernel
theorem dL_law_1164 : decode code 1164 = .ok (.iconst (1), 1) := by decide +kernel
theorem dL_law_1165 : decode code 1165 = .ok (.iadd, 1) := by decide +kernel
theorem dL_law_1166 : decode code 1166 = .ok (.iaload, 1) := by decide +kernel
theorem dL_law_1167 : decode code 1167 = .ok (.aload_n 0, 1) := by decide +kernel
theorem dL_law_1168 : decode code 1168 = .ok (.iload_n 3, 1) := by decide +kernel
theorem dL_law_1169 : decode code 1169 = .ok (.iconst (2), 1) := by decide +kernel
theorem dL_law_1170 : decode code 1170 = .ok (.iadd, 1) := by decide +kernel
theorem dL_law_1171 : decode code 1171 = .ok (.iaload, 1) := by decide +kernel
theorem dL_law_1172 : decode code 1172 = .ok (.invokevirtual 149, 3) := by decide +kernel
theorem dL_law_1175 : decode code 1175 = .ok (.if_icmp .eq (209), 3) := by decide +kernel
theorem dL_law_1178 : decode code 1178 = .ok (.iconst (0), 1) := by decide +kernel
theorem dL_law_1179 : decode code 1179 = .ok (.ireturn, 1) := by decide +kernel
theorem dL_law_1180 : decode code 1180 = .ok (.aload_n 1, 1) := by decide +kernel
theorem dL_law_1181 : decode code 1181 = .ok (.aload_n 0, 1) := by decide +kernel
theorem dL_law_1182 : decode code 1182 = .ok (.iload_n 3, 1) := by decide +kernel
theorem dL_law_1183 : decode code 1183 = .ok (.iconst (1), 1) := by decide +kernel
theorem dL_law_1184 : decode code 1184 = .ok (.iadd, 1) := by decide +kernel
theorem dL_law_1185 : decode code 1185 = .ok (.iaload, 1) := by decide +kernel
theorem dL_law_1186 : decode code 1186 = .ok (.aload_n 0, 1) := by decide +kernel
theorem dL_law_1187 : decode code 1187 = .ok (.iload_n 3, 1) := by decide +kernel
theorem dL_law_1188 : decode code 1188 = .ok (.iconst (2), 1) := by decide +kernel
theorem dL_law_1189 : decode code 1189 = .ok (.iadd, 1) := by decide +kernel
theorem dL_law_1190 : decode code 1190 = .ok (.iaload, 1) := by decide +kernel
theorem dL_law_1191 : decode code 1191 = .ok (.ifCond .eq (7), 3) := by decide +kernel
theorem dL_law_1194 : decode code 1194 = .ok (.iconst (1), 1) := by decide +kernel
theorem dL_law_1195 : decode code 1195 = .ok (.goto (4), 3) := by decide +kernel
theorem dL_law_1198 : decode code 1198 = .ok (.iconst (0), 1) := by decide +kernel
theorem dL_law_1199 : decode code 1199 = .ok (.invokevirtual 150, 3) := by decide +kernel
theorem dL_law_1202 : decode code 1202 = .ok (.aload_n 2, 1) := by decide +kernel
theorem dL_law_1203 : decode code 1203 = .ok (.aload_n 0, 1) := by decide +kernel
theorem dL_law_1204 : decode code 1204 = .ok (.iload_n 3, 1) := by decide +kernel
theorem dL_law_1205 : decode code 1205 = .ok (.iconst (1), 1) := by decide +kernel
theorem dL_law_1206 : decode code 1206 = .ok (.iadd, 1) := by decide +kernel
theorem dL_law_1207 : decode code 1207 = .ok (.iaload, 1) := by decide +kernel
theorem dL_law_1208 : decode code 1208 = .ok (.aload_n 0, 1) := by decide +kernel
theorem dL_law_1209 : decode code 1209 = .ok (.iload_n 3, 1) := by decide +kernel
theorem dL_law_1210 : decode code 1210 = .ok (.iconst (2), 1) := by decide +kernel
theorem dL_law_1211 : decode code 1211 = .ok (.iadd, 1) := by decide +kernel
theorem dL_law_1212 : decode code 1212 = .ok (.iaload, 1) := by decide +kernel
theorem dL_law_1213 : decode code 1213 = .ok (.ifCond .eq (7), 3) := by decide +kernel
theorem dL_law_1216 : decode code 1216 = .ok (.iconst (1), 1) := by decide +kernel
theorem dL_law_1217 : decode code 1217 = .ok (.goto (4), 3) := by decide +kernel
theorem dL_law_1220 : decode code 1220 = .ok (.iconst (0), 1) := by decide +kernel
theorem dL_law_1221 : decode code 1221 = .ok (.invokevirtual 154, 3) := by decide +kernel
theorem dL_law_1224 : decode code 1224 = .ok (.if_icmp .eq (160), 3) := by decide +kernel
theorem dL_law_1227 : decode code 1227 = .ok (.iconst (0), 1) := by decide +kernel
theorem dL_law_1228 : decode code 1228 = .ok (.ireturn, 1) := by decide +kernel
theorem dL_law_1229 : decode code 1229 = .ok (.aload_n 1, 1) := by decide +kernel
theorem dL_law_1230 : decode code 1230 = .ok (.invokevirtual 155, 3) := by decide +kernel
theorem dL_law_1233 : decode code 1233 = .ok (.aload_n 2, 1) := by decide +kernel
theorem dL_law_1234 : decode code 1234 = .ok (.invokevirtual 158, 3) := by decide +kernel
theorem dL_law_1237 : decode code 1237 = .ok (.if_icmp .eq (147), 3) := by decide +kernel
theorem dL_law_1240 : decode code 1240 = .ok (.iconst (0), 1) := by decide +kernel
theorem dL_law_1241 : decode code 1241 = .ok (.ireturn, 1) := by decide +kernel
theorem dL_law_1242 : decode code 1242 = .ok (.aload_n 1, 1) := by decide +kernel
theorem dL_law_1243 : decode code 1243 = .ok (.aload_n 0, 1) := by decide +kernel
theorem dL_law_1244 : decode code 1244 = .ok (.iload_n 3, 1) := by decide +kernel
theorem dL_law_1245 : decode code 1245 = .ok (.iconst (1), 1) := by decide +kernel
theorem dL_law_1246 : decode code 1246 = .ok (.iadd, 1) := by decide +kernel
theorem dL_law_1247 : decode code 1247 = .ok (.iaload, 1) := by decide +kernel
theorem dL_law_1248 : decode code 1248 = .ok (.invokevirtual 159, 3) := by decide +kernel
theorem dL_law_1251 : decode code 1251 = .ok (.aload_n 2, 1) := by decide +kernel
theorem dL_law_1252 : decode code 1252 = .ok (.aload_n 0, 1) := by decide +kernel
theorem dL_law_1253 : decode code 1253 = .ok (.iload_n 3, 1) := by decide +kernel
theorem dL_law_1254 : decode code 1254 = .ok (.iconst (1), 1) := by decide +kernel
theorem dL_law_1255 : decode code 1255 = .ok (.iadd, 1) := by decide +kernel
theorem dL_law_1256 : decode code 1256 = .ok (.iaload, 1) := by decide +kernel
theorem dL_law_1257 : decode code 1257 = .ok (.invokevirtual 162, 3) := by decide +kernel
theorem dL_law_1260 : decode code 1260 = .ok (.if_icmp .eq (124), 3) := by decide +kernel
theorem dL_law_1263 : decode code 1263 = .ok (.iconst (0), 1) := by decide +kernel
theorem dL_law_1264 : decode code 1264 = .ok (.ireturn, 1) := by decide +kernel
theorem dL_law_1265 : decode code 1265 = .ok (.aload_n 1, 1) := by decide +kernel
theorem dL_law_1266 : decode code 1266 = .ok (.aload_n 0, 1) := by decide +kernel
theorem dL_law_1267 : decode code 1267 = .ok (.iload_n 3, 1) := by decide +kernel
theorem dL_law_1268 : decode code 1268 = .ok (.iconst (1), 1) := by decide +kernel
theorem dL_law_1269 : decode code 1269 = .ok (.iadd, 1) := by decide +kernel
theorem dL_law_1270 : decode code 1270 = .ok (.iaload, 1) := by decide +kernel
theorem dL_law_1271 : decode code 1271 = .ok (.invokevirtual 163, 3) := by decide +kernel
theorem dL_law_1274 : decode code 1274 = .ok (.aload_n 2, 1) := by decide +kernel
theorem dL_law_1275 : decode code 1275 = .ok (.aload_n 0, 1) := by decide +kernel
theorem dL_law_1276 : decode code 1276 = .ok (.iload_n 3, 1) := by decide +kernel
theorem dL_law_1277 : decode code 1277 = .ok (.iconst (1), 1) := by decide +kernel
theorem dL_law_1278 : decode code 1278 = .ok (.iadd, 1) := by decide +kernel
theorem dL_law_1279 : decode code 1279 = .ok (.iaload, 1) := by decide +kernel
theorem dL_law_1280 : decode code 1280 = .ok (.invokevirtual 166, 3) := by decide +kernel
theorem dL_law_1283 : decode code 1283 = .ok (.if_icmp .eq (101), 3) := by decide +kernel
theorem dL_law_1286 : decode code 1286 = .ok (.iconst (0), 1) := by decide +kernel
theorem dL_law_1287 : decode code 1287 = .ok (.ireturn, 1) := by decide +kernel
theorem dL_law_1288 : decode code 1288 = .ok (.aload_n 1, 1) := by decide +kernel
theorem dL_law_1289 : decode code 1289 = .ok (.aload_n 0, 1) := by decide +kernel
theorem dL_law_1290 : decode code 1290 = .ok (.iload_n 3, 1) := by decide +kernel
theorem dL_law_1291 : decode code 1291 = .ok (.iconst (1), 1) := by decide +kernel
theorem dL_law_1292 : decode code 1292 = .ok (.iadd, 1) := by decide +kernel
theorem dL_law_1293 : decode code 1293 = .ok (.iaload, 1) := by decide +kernel
theorem dL_law_1294 : decode code 1294 = .ok (.invokevirtual 167, 3) := by decide +kernel
theorem dL_law_1297 : decode code 1297 = .ok (.aload_n 2, 1) := by decide +kernel
theorem dL_law_1298 : decode code 1298 = .ok (.aload_n 0, 1) := by decide +kernel
theorem dL_law_1299 : decode code 1299 = .ok (.iload_n 3, 1) := by decide +kernel
theorem dL_law_1300 : decode code 1300 = .ok (.iconst (1), 1) := by decide +kernel
theorem dL_law_1301 : decode code 1301 = .ok (.iadd, 1) := by decide +kernel
theorem dL_law_1302 : decode code 1302 = .ok (.iaload, 1) := by decide +kernel
theorem dL_law_1303 : decode code 1303 = .ok (.invokevirtual 170, 3) := by decide +kernel
theorem dL_law_1306 : decode code 1306 = .ok (.if_icmp .eq (78), 3) := by decide +kernel
theorem dL_law_1309 : decode code 1309 = .ok (.iconst (0), 1) := by decide +kernel
theorem dL_law_1310 : decode code 1310 = .ok (.ireturn, 1) := by decide +kernel
theorem dL_law_1311 : decode code 1311 = .ok (.aload_n 1, 1) := by decide +kernel
theorem dL_law_1312 : decode code 1312 = .ok (.invokevirtual 171, 3) := by decide +kernel
theorem dL_law_1315 : decode code 1315 = .ok (.aload_n 2, 1) := by decide +kernel
theorem dL_law_1316 : decode code 1316 = .ok (.invokevirtual 174, 3) := by decide +kernel
theorem dL_law_1319 : decode code 1319 = .ok (.if_icmp .eq (65), 3) := by decide +kernel
theorem dL_law_1322 : decode code 1322 = .ok (.iconst (0), 1) := by decide +kernel
theorem dL_law_1323 : decode code 1323 = .ok (.ireturn, 1) := by decide +kernel
theorem dL_law_1324 : decode code 1324 = .ok (.aload_n 1, 1) := by decide +kernel
theorem dL_law_1325 : decode code 1325 = .ok (.aload_n 0, 1) := by decide +kernel
theorem dL_law_1326 : decode code 1326 = .ok (.iload_n 3, 1) := by decide +kernel
theorem dL_law_1327 : decode code 1327 = .ok (.iconst (1), 1) := by decide +kernel
theorem dL_law_1328 : decode code 1328 = .ok (.iadd, 1) := by decide +kernel
theorem dL_law_1329 : decode code 1329 = .ok (.iaload, 1) := by decide +kernel
theorem dL_law_1330 : decode code 1330 = .ok (.invokevirtual 175, 3) := by decide +kernel
theorem dL_law_1333 : decode code 1333 = .ok (.aload_n 2, 1) := by decide +kernel
theorem dL_law_1334 : decode code 1334 = .ok (.aload_n 0, 1) := by decide +kernel
theorem dL_law_1335 : decode code 1335 = .ok (.iload_n 3, 1) := by decide +kernel
theorem dL_law_1336 : decode code 1336 = .ok (.iconst (1), 1) := by decide +kernel
theorem dL_law_1337 : decode code 1337 = .ok (.iadd, 1) := by decide +kernel
theorem dL_law_1338 : decode code 1338 = .ok (.iaload, 1) := by decide +kernel
theorem dL_law_1339 : decode code 1339 = .ok (.invokevirtual 178, 3) := by decide +kernel
theorem dL_law_1342 : decode code 1342 = .ok (.if_icmp .eq (42), 3) := by decide +kernel
theorem dL_law_1345 : decode code 1345 = .ok (.iconst (0), 1) := by decide +kernel
theorem dL_law_1346 : decode code 1346 = .ok (.ireturn, 1) := by decide +kernel
theorem dL_law_1347 : decode code 1347 = .ok (.aload_n 1, 1) := by decide +kernel
theorem dL_law_1348 : decode code 1348 = .ok (.aload_n 0, 1) := by decide +kernel
theorem dL_law_1349 : decode code 1349 = .ok (.iload_n 3, 1) := by decide +kernel
theorem dL_law_1350 : decode code 1350 = .ok (.iconst (1), 1) := by decide +kernel
theorem dL_law_1351 : decode code 1351 = .ok (.iadd, 1) := by decide +kernel
theorem dL_law_1352 : decode code 1352 = .ok (.iaload, 1) := by decide +kernel
theorem dL_law_1353 : decode code 1353 = .ok (.invokevirtual 179, 3) := by decide +kernel
theorem dL_law_1356 : decode code 1356 = .ok (.aload_n 2, 1) := by decide +kernel
theorem dL_law_1357 : decode code 1357 = .ok (.aload_n 0, 1) := by decide +kernel
theorem dL_law_1358 : decode code 1358 = .ok (.iload_n 3, 1) := by decide +kernel
theorem dL_law_1359 : decode code 1359 = .ok (.iconst (1), 1) := by decide +kernel
theorem dL_law_1360 : decode code 1360 = .ok (.iadd, 1) := by decide +kernel
theorem dL_law_1361 : decode code 1361 = .ok (.iaload, 1) := by decide +kernel
theorem dL_law_1362 : decode code 1362 = .ok (.invokevirtual 182, 3) := by decide +kernel
theorem dL_law_1365 : decode code 1365 = .ok (.if_icmp .eq (19), 3) := by decide +kernel
theorem dL_law_1368 : decode code 1368 = .ok (.iconst (0), 1) := by decide +kernel
theorem dL_law_1369 : decode code 1369 = .ok (.ireturn, 1) := by decide +kernel
theorem dL_law_1370 : decode code 1370 = .ok (.aload_n 1, 1) := by decide +kernel
theorem dL_law_1371 : decode code 1371 = .ok (.invokevirtual 183, 3) := by decide +kernel
theorem dL_law_1374 : decode code 1374 = .ok (.aload_n 2, 1) := by decide +kernel
theorem dL_law_1375 : decode code 1375 = .ok (.invokevirtual 187, 3) := by decide +kernel
theorem dL_law_1378 : decode code 1378 = .ok (.lcmp, 1) := by decide +kernel
theorem dL_law_1379 : decode code 1379 = .ok (.ifCond .eq (5), 3) := by decide +kernel
theorem dL_law_1382 : decode code 1382 = .ok (.iconst (0), 1) := by decide +kernel
theorem dL_law_1383 : decode code 1383 = .ok (.ireturn, 1) := by decide +kernel
theorem dL_law_1384 : decode code 1384 = .ok (.iinc 3 (5), 3) := by decide +kernel
theorem dL_law_1387 : decode code 1387 = .ok (.goto (-1369), 3) := by decide +kernel
theorem dL_law_1390 : decode code 1390 = .ok (.iconst (1), 1) := by decide +kernel
theorem dL_law_1391 : decode code 1391 = .ok (.ireturn, 1) := by decide +kernel
