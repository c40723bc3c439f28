theorem dL_law_1052 : decode code 1052 = .ok (.iconst 2, 1) := by decide +kernel
theorem dL_law_1053 : decode code 1053 = .ok (.iadd, 1) := by decide +kernel
theorem dL_law_1054 : decode code 1054 = .ok (.iaload, 1) := by decide +kernel
theorem dL_law_1055 : decode code 1055 = .ok (.invokevirtual 139, 3) := by decide +kernel
theorem dL_law_1058 : decode code 1058 = .ok (.aload_n 2, 1) := by decide +kernel
theorem dL_law_1059 : decode code 1059 = .ok (.aload_n 0, 1) := by decide +kernel
theorem dL_law_1060 : decode code 1060 = .ok (.iload_n 3, 1) := by decide +kernel
theorem dL_law_1061 : decode code 1061 = .ok (.iconst 1, 1) := by decide +kernel
theorem dL_law_1062 : decode code 1062 = .ok (.iadd, 1) := by decide +kernel
theorem dL_law_1063 : decode code 1063 = .ok (.iaload, 1) := by decide +kernel
theorem dL_law_1064 : decode code 1064 = .ok (.aload_n 0, 1) := by decide +kernel
theorem dL_law_1065 : decode code 1065 = .ok (.iload_n 3, 1) := by decide +kernel
theorem dL_law_1066 : decode code 1066 = .ok (.iconst 2, 1) := by decide +kernel
theorem dL_law_1067 : decode code 1067 = .ok (.iadd, 1) := by decide +kernel
theorem dL_law_1068 : decode code 1068 = .ok (.iaload, 1) := by decide +kernel
theorem dL_law_1069 : decode code 1069 = .ok (.invokevirtual 142, 3) := by decide +kernel
theorem dL_law_1072 : decode code 1072 = .ok (.if_icmp .eq 465, 3) := by decide +kernel
theorem dL_law_1075 : decode code 1075 = .ok (.iconst 0, 1) := by decide +kernel
theorem dL_law_1076 : decode code 1076 = .ok (.ireturn, 1) := by decide +kernel
theorem dL_law_1077 : decode code 1077 = .ok (.aload_n 1, 1) := by decide +kernel
theorem dL_law_1078 : decode code 1078 = .ok (.invokevirtual 143, 3) := by decide +kernel
theorem dL_law_1081 : decode code 1081 = .ok (.aload_n 2, 1) := by decide +kernel
theorem dL_law_1082 : decode code 1082 = .ok (.invokevirtual 146, 3) := by decide +kernel
theorem dL_law_1085 : decode code 1085 = .ok (.if_icmp .eq 452, 3) := by decide +kernel
theorem dL_law_1088 : decode code 1088 = .ok (.iconst 0, 1) := by decide +kernel
theorem dL_law_1089 : decode code 1089 = .ok (.ireturn, 1) := by decide +kernel
theorem dL_law_1090 : decode code 1090 = .ok (.aload_n 1, 1) := by decide +kernel
theorem dL_law_1091 : decode code 1091 = .ok (.invokevirtual 147, 3) := by decide +kernel
theorem dL_law_1094 : decode code 1094 = .ok (.aload_n 2, 1) := by decide +kernel
theorem dL_law_1095 : decode code 1095 = .ok (.invokevirtual 150, 3) := by decide +kernel
theorem dL_law_1098 : decode code 1098 = .ok (.if_icmp .eq 439, 3) := by decide +kernel
theorem dL_law_1101 : decode code 1101 = .ok (.iconst 0, 1) := by decide +kernel
theorem dL_law_1102 : decode code 1102 = .ok (.ireturn, 1) := by decide +kernel
theorem dL_law_1103 : decode code 1103 = .ok (.aload_n 1, 1) := by decide +kernel
theorem dL_law_1104 : decode code 1104 = .ok (.invokevirtual 151, 3) := by decide +kernel
theorem dL_law_1107 : decode code 1107 = .ok (.aload_n 2, 1) := by decide +kernel
theorem dL_law_1108 : decode code 1108 = .ok (.invokevirtual 154, 3) := by decide +kernel
theorem dL_law_1111 : decode code 1111 = .ok (.if_icmp .eq 426, 3) := by decide +kernel
theorem dL_law_1114 : decode code 1114 = .ok (.iconst 0, 1) := by decide +kernel
theorem dL_law_1115 : decode code 1115 = .ok (.ireturn, 1) := by decide +kernel
theorem dL_law_1116 : decode code 1116 = .ok (.aload_n 1, 1) := by decide +kernel
theorem dL_law_1117 : decode code 1117 = .ok (.aload_n 0, 1) := by decide +kernel
theorem dL_law_1118 : decode code 1118 = .ok (.iload_n 3, 1) := by decide +kernel
theorem dL_law_1119 : decode code 1119 = .ok (.iconst 1, 1) := by decide +kernel
theorem dL_law_1120 : decode code 1120 = .ok (.iadd, 1) := by decide +kernel
theorem dL_law_1121 : decode code 1121 = .ok (.iaload, 1) := by decide +kernel
theorem dL_law_1122 : decode code 1122 = .ok (.invokevirtual 155, 3) := by decide +kernel
theorem dL_law_1125 : decode code 1125 = .ok (.aload_n 2, 1) := by decide +kernel
theorem dL_law_1126 : decode code 1126 = .ok (.aload_n 0, 1) := by decide +kernel
theorem dL_law_1127 : decode code 1127 = .ok (.iload_n 3, 1) := by decide +kernel
theorem dL_law_1128 : decode code 1128 = .ok (.iconst 1, 1) := by decide +kernel
theorem dL_law_1129 : decode code 1129 = .ok (.iadd, 1) := by decide +kernel
theorem dL_law_1130 : decode code 1130 = .ok (.iaload, 1) := by decide +kernel
theorem dL_law_1131 : decode code 1131 = .ok (.invokevirtual 158, 3) := by decide +kernel
theorem dL_law_1134 : decode code 1134 = .ok (.if_icmp .eq 403, 3) := by decide +kernel
theorem dL_law_1137 : decode code 1137 = .ok (.iconst 0, 1) := by decide +kernel
theorem dL_law_1138 : decode code 1138 = .ok (.ireturn, 1) := by decide +kernel
theorem dL_law_1139 : decode code 1139 = .ok (.aload_n 1, 1) := by decide +kernel
theorem dL_law_1140 : decode code 1140 = .ok (.invokevirtual 159, 3) := by decide +kernel
theorem dL_law_1143 : decode code 1143 = .ok (.aload_n 2, 1) := by decide +kernel
theorem dL_law_1144 : decode code 1144 = .ok (.invokevirtual 162, 3) := by decide +kernel
theorem dL_law_1147 : decode code 1147 = .ok (.if_icmp .eq 390, 3) := by decide +kernel
theorem dL_law_1150 : decode code 1150 = .ok (.iconst 0, 1) := by decide +kernel
theorem dL_law_1151 : decode code 1151 = .ok (.ireturn, 1) := by decide +kernel
theorem dL_law_1152 : decode code 1152 = .ok (.aload_n 1, 1) := by decide +kernel
theorem dL_law_1153 : decode code 1153 = .ok (.aload_n 0, 1) := by decide +kernel
theorem dL_law_1154 : decode code 1154 = .ok (.iload_n 3, 1) := by decide +kernel
theorem dL_law_1155 : decode code 1155 = .ok (.iconst 1, 1) := by decide +kernel
theorem dL_law_1156 : decode code 1156 = .ok (.iadd, 1) := by decide +kernel
theorem dL_law_1157 : decode code 1157 = .ok (.iaload, 1) := by decide +kernel
theorem dL_law_1158 : decode code 1158 = .ok (.invokevirtual 163, 3) := by decide +kernel
theorem dL_law_1161 : decode code 1161 = .ok (.aload_n 2, 1) := by decide +kernel
theorem dL_law_1162 : decode code 1162 = .ok (.aload_n 0, 1) := by decide +kernel
theorem dL_law_1163 : decode code 1163 = .ok (.iload_n 3, 1) := by decide +kernel
theorem dL_law_1164 : decode code 1164 = .ok (.iconst 1, 1) := by decide +kernel
theorem dL_law_1165 : decode code 1165 = .ok (.iadd, 1) := by decide +kernel
theorem dL_law_1166 : decode code 1166 = .ok (.iaload, 1) := by decide +kernel
theorem dL_law_1167 : decode code 1167 = .ok (.invokevirtual 166, 3) := by decide +kernel
theorem dL_law_1170 : decode code 1170 = .ok (.if_icmp .eq 367, 3) := by decide +kernel
theorem dL_law_1173 : decode code 1173 = .ok (.iconst 0, 1) := by decide +kernel
theorem dL_law_1174 : decode code 1174 = .ok (.ireturn, 1) := by decide +kernel
theorem dL_law_1175 : decode code 1175 = .ok (.aload_n 1, 1) := by decide +kernel
theorem dL_law_1176 : decode code 1176 = .ok (.aload_n 0, 1) := by decide +kernel
theorem dL_law_1177 : decode code 1177 = .ok (.iload_n 3, 1) := by decide +kernel
theorem dL_law_1178 : decode code 1178 = .ok (.iconst 1, 1) := by decide +kernel
theorem dL_law_1179 : decode code 1179 = .ok (.iadd, 1) := by decide +kernel
theorem dL_law_1180 : decode code 1180 = .ok (.iaload, 1) := by decide +kernel
theorem dL_law_1181 : decode code 1181 = .ok (.invokevirtual 167, 3) := by decide +kernel
theorem dL_law_1184 : decode code 1184 = .ok (.aload_n 2, 1) := by decide +kernel
theorem dL_law_1185 : decode code 1185 = .ok (.aload_n 0, 1) := by decide +kernel
theorem dL_law_1186 : decode code 1186 = .ok (.iload_n 3, 1) := by decide +kernel
theorem dL_law_1187 : decode code 1187 = .ok (.iconst 1, 1) := by decide +kernel
theorem dL_law_1188 : decode code 1188 = .ok (.iadd, 1) := by decide +kernel
theorem dL_law_1189 : decode code 1189 = .ok (.iaload, 1) := by decide +kernel
theorem dL_law_1190 : decode code 1190 = .ok (.invokevirtual 170, 3) := by decide +kernel
theorem dL_law_1193 : decode code 1193 = .ok (.if_icmp .eq 344, 3) := by decide +kernel
theorem dL_law_1196 : decode code 1196 = .ok (.iconst 0, 1) := by decide +kernel
theorem dL_law_1197 : decode code 1197 = .ok (.ireturn, 1) := by decide +kernel
theorem dL_law_1198 : decode code 1198 = .ok (.aload_n 1, 1) := by decide +kernel
theorem dL_law_1199 : decode code 1199 = .ok (.aload_n 0, 1) := by decide +kernel
theorem dL_law_1200 : decode code 1200 = .ok (.iload_n 3, 1) := by decide +kernel
theorem dL_law_1201 : decode code 1201 = .ok (.iconst 1, 1) := by decide +kernel
theorem dL_law_1202 : decode code 1202 = .ok (.iadd, 1) := by decide +kernel
theorem dL_law_1203 : decode code 1203 = .ok (.iaload, 1) := by decide +kernel
theorem dL_law_1204 : decode code 1204 = .ok (.aload_n 0, 1) := by decide +kernel
theorem dL_law_1205 : decode code 1205 = .ok (.iload_n 3, 1) := by decide +kernel
theorem dL_law_1206 : decode code 1206 = .ok (.iconst 2, 1) := by decide +kernel
theorem dL_law_1207 : decode code 1207 = .ok (.iadd, 1) := by decide +kernel
theorem dL_law_1208 : decode code 1208 = .ok (.iaload, 1) := by decide +kernel
theorem dL_law_1209 : decode code 1209 = .ok (.invokevirtual 171, 3) := by decide +kernel
theorem dL_law_1212 : decode code 1212 = .ok (.aload_n 2, 1) := by decide +kernel
theorem dL_law_1213 : decode code 1213 = .ok (.aload_n 0, 1) := by decide +kernel
theorem dL_law_1214 : decode code 1214 = .ok (.iload_n 3, 1) := by decide +kernel
theorem dL_law_1215 : decode code 1215 = .ok (.iconst 1, 1) := by decide +kernel
theorem dL_law_1216 : decode code 1216 = .ok (.iadd, 1) := by decide +kernel
theorem dL_law_1217 : decode code 1217 = .ok (.iaload, 1) := by decide +kernel
theorem dL_law_1218 : decode code 1218 = .ok (.aload_n 0, 1) := by decide +kernel
theorem dL_law_1219 : decode code 1219 = .ok (.iload_n 3, 1) := by decide +kernel
theorem dL_law_1220 : decode code 1220 = .ok (.iconst 2, 1) := by decide +kernel
theorem dL_law_1221 : decode code 1221 = .ok (.iadd, 1) := by decide +kernel
theorem dL_law_1222 : decode code 1222 = .ok (.iaload, 1) := by decide +kernel
theorem dL_law_1223 : decode code 1223 = .ok (.invokevirtual 174, 3) := by decide +kernel
theorem dL_law_1226 : decode code 1226 = .ok (.if_icmp .eq 311, 3) := by decide +kernel
theorem dL_law_1229 : decode code 1229 = .ok (.iconst 0, 1) := by decide +kernel
theorem dL_law_1230 : decode code 1230 = .ok (.ireturn, 1) := by decide +kernel
theorem dL_law_1231 : decode code 1231 = .ok (.aload_n 1, 1) := by decide +kernel
theorem dL_law_1232 : decode code 1232 = .ok (.aload_n 0, 1) := by decide +kernel
theorem dL_law_1233 : decode code 1233 = .ok (.iload_n 3, 1) := by decide +kernel
theorem dL_law_1234 : decode code 1234 = .ok (.iconst 1, 1) := by decide +kernel
theorem dL_law_1235 : decode code 1235 = .ok (.iadd, 1) := by decide +kernel
