set_option maxRecDepth 20000 in
theorem hg_X7_init : GoodIn lw_tbl wsX7_init := goodIn_ca (goodIn_ca (goodIn_ca (goodIn_ca (goodIn_ca (goodIn_ca (goodIn_ca (goodIn_rx _ [1022, 1023, 1024, 1025, 1026, 1027, 1002, 2075, 1062, 1063, 1003, 2076, 1156, 1157, 1004, 2077, 1199, 1200, 1007, 2078, 2079, 2080, 2081, 2048, 2082, 2018, 2019, 1008, 2083, 2049, 2050, 1009, 2084, 1029, 1030, 1031, 1059, 1034, 1032, 1038, 1060, 1040, 1061, 1042, 1065, 1066, 1067, 1071, 1076, 1083, 1088, 1090, 1092, 1099, 1103, 1106, 1109, 1112, 1115, 1118, 1158, 1159, 1160, 1161, 1165, 1166, 1167, 1162, 1171, 1164, 1169, 1201, 1202, 1203, 1204, 1208, 1210, 1212, 1215, 1219, 1220, 1223, 1205, 1217, 2021, 2022, 2023, 2028, 2030, 2032, 2034, 2051, 2052, 2053, 2054, 2058, 2055, 2059, 2057] rfl (by decide +kernel)) gw_X5) gw_X7) gw_X2) gw_X3) gw_X1) gw_X4) gw_X0
set_option maxRecDepth 20000 in
theorem hg_X8_init : GoodIn lw_tbl wsX8_init := goodIn_ca (goodIn_rx _ [4142, 4143, 1024, 1025, 1060, 4146, 4154, 4155, 4156, 4157, 1061, 4158, 4159, 4160, 4161, 4162, 4163, 4164, 4165, 4166, 4167, 4168, 4169, 4170, 4171, 4172, 4174, 2048, 4175, 4176, 4177, 4178, 4179, 4180, 4181, 4182, 4183, 4184, 4185, 4191, 4192, 4194, 4195, 4196, 4202, 4203, 4204, 4205, 4206, 4207, 4208, 4209, 4210, 4211] rfl (by decide +kernel)) gw_X8
set_option maxRecDepth 20000 in
theorem hg_X7_feed : GoodIn lw_tbl wsX7_feed := goodIn_ca (goodIn_ca (goodIn_rx _ [2109, 2075, 1037, 2110, 2111, 2112, 1002, 2113, 1036, 1034] rfl (by decide +kernel)) gw_X7) gw_X5
theorem hG_X7_feed : GoodIn lw_tbl (wsV RL 24 RX7 yX7_feed wsX7_feed) := goodIn_app (goodIn_rx _ [2106, 2107, 2108, 1001] rfl (by decide +kernel)) hg_X7_feed
set_option maxRecDepth 20000 in
theorem hg_X8_feed : GoodIn lw_tbl wsX8_feed := goodIn_ca (goodIn_rx _ [5115, 4144, 5116, 4145, 4146] rfl (by decide +kernel)) gw_X8
theorem hG_X8_feed : GoodIn lw_tbl (wsV RL 28 RX8 yX8_feed wsX8_feed) := goodIn_app (goodIn_rx _ [5112, 5113, 5114, 1010] rfl (by decide +kernel)) hg_X8_feed
set_option maxRecDepth 20000 in
theorem hg_X7_programme : GoodIn lw_tbl wsX7_programme := goodIn_ca (goodIn_ca (goodIn_ca (goodIn_ca (goodIn_ca (goodIn_rx _ [2117, 2077, 1175, 2078, 2118, 2119, 2120, 1004, 2121, 1164, 1035, 2161, 1063, 1003, 1169, 1168, 1174, 1170, 1171, 1162, 2167, 2203, 2209, 2234, 3041, 1167, 1119, 2122, 2123, 2124, 1002, 2125, 1044, 1036, 1034, 2160, 2126, 2127, 2128, 2129, 2131, 0, 2132, 2140, 2133, 2134, 2135, 2136, 2138, 1, 2139, 2142, 2144, 2145, 2146, 6233, 2149, 2151, 2, 2152, 1038, 1040, 1042, 2153, 2155, 3, 2156, 2157, 2158, 1065, 1066, 1067, 1024, 1025, 1060, 1071, 1076, 1083, 1088, 1090, 1092, 1099, 1103, 1106, 1109, 1112, 1115, 1118, 2163, 2165, 4, 2166, 1045, 1039, 1041, 1172, 1043, 1173, 2169, 2171, 5, 2172, 1068, 1165, 2186, 1072, 2201, 1077, 2173, 2175, 6, 2176, 2177, 2179, 7, 2180, 2181, 1166, 1080, 2182, 2184, 8, 2185, 2188, 2190, 9, 2191, 2192, 2194, 10, 2195, 2196, 2198, 11, 2199, 2200, 2205, 2207, 12, 2208, 1084, 2211, 2213, 13, 2214, 1086, 1089, 1091, 1093, 2215, 2217, 14, 2218, 2219, 2221, 15, 2222, 2223, 2224, 2225, 2226, 1085, 2227, 2229, 16, 2230, 2231, 2232, 1011, 2233, 2236, 2238, 17, 2239, 1097, 1105, 1110, 1116, 3000, 3002, 18, 3003, 3004, 3006, 19, 3007, 6234, 1101, 1107, 1113, 3035, 3037, 3039, 3008, 3010, 20, 3011, 3012, 3014, 21, 3015, 6235, 6236, 3016, 3018, 22, 3029, 3031, 23, 3032, 3019, 3023, 3033, 3025, 3020, 3021, 3022, 3027, 3043, 3044, 1012, 3045, 3046, 3047, 3048, 3049, 3050, 3052, 3053, 3054, 3055, 3056, 3058, 3057, 1013, 3059, 3060, 3061, 1007, 3062, 1205, 1104, 1208, 3063, 1210, 1212, 1223, 1225, 1228, 1230, 3064, 3065, 3066] rfl (by decide +kernel)) gw_X7) gw_X3) gw_X5) gw_X2) gw_X1
theorem hG_X7_programme : GoodIn lw_tbl (wsV RL 29 RX7 yX7_programme wsX7_programme) := goodIn_app (goodIn_rx _ [2114, 2115, 2116, 1001] rfl (by decide +kernel)) hg_X7_programme
set_option maxRecDepth 20000 in
theorem hg_X8_programme : GoodIn lw_tbl wsX8_programme := goodIn_ca (goodIn_rx _ [5120, 4144, 4153, 4198, 4203, 5121, 5123, 37, 1010, 5124, 4154, 4155, 4156, 4157, 4173, 4145, 4147, 4148, 4150, 5135, 5158, 5159, 5160, 5125, 5127, 38, 5128, 4146, 4149, 4151, 4152, 5133, 5134, 5129, 5131, 39, 5132, 5136, 5138, 40, 5139, 5140, 5142, 41, 5143, 4158, 5156, 4160, 5157, 4161, 5144, 5146, 42, 5147, 5148, 5150, 43, 5151, 5152, 5154, 44, 5155, 5161, 5162, 5163, 5164, 5165, 5166, 5167, 5168, 5169, 5170, 5171, 5172, 5173, 5174, 5176, 45, 5177, 5178, 5180, 46, 5181, 4159, 5182, 5184, 47, 5185, 5186, 5188, 48, 5189, 5190, 5191, 5192, 5193, 5195, 49, 5196, 5197, 5199, 50, 5200, 5201, 5203, 51, 5204, 4162, 5205, 5207, 52, 5208, 4163, 4164, 4165, 5209, 5211, 53, 5212, 4168, 4169, 5213, 5215, 54, 5216, 4166, 4167, 4170, 4171, 5217, 5219, 55, 5220, 5221, 5223, 56, 5224, 5225, 5227, 57, 5228, 4175, 4174, 5229, 5231, 58, 5232, 4172, 5233, 5235, 59, 5236, 5237, 5238, 5239] rfl (by decide +kernel)) gw_X8
theorem hG_X8_programme : GoodIn lw_tbl (wsV RL 33 RX8 yX8_programme wsX8_programme) := goodIn_app (goodIn_rx _ [5117, 5118, 5119, 1010] rfl (by decide +kernel)) hg_X8_programme
set_option maxRecDepth 20000 in
theorem hg_X7_stuff : GoodIn lw_tbl wsX7_stuff := goodIn_ca (goodIn_ca (goodIn_ca (goodIn_rx _ [3070, 2078, 1207, 1069, 1073, 1078, 3071, 3072, 1001, 3073] rfl (by decide +kernel)) gw_X7) gw_X1) gw_X2
theorem hG_X7_stuff : GoodIn lw_tbl (wsV RL 34 RX7 yX7_stuff wsX7_stuff) := goodIn_app (goodIn_rx _ [3067, 3068, 3069, 1001] rfl (by decide +kernel)) hg_X7_stuff
set_option maxRecDepth 20000 in
theorem hg_X8_stuff : GoodIn lw_tbl wsX8_stuff := goodIn_ca (goodIn_rx _ [6003, 4144, 4160, 4161, 6004, 6006, 60, 1010, 6007, 4154, 5190, 5191, 5192] rfl (by decide +kernel)) gw_X8
theorem hG_X8_stuff : GoodIn lw_tbl (wsV RL 38 RX8 yX8_stuff wsX8_stuff) := goodIn_app (goodIn_rx _ [6000, 6001, 6002, 1010] rfl (by decide +kernel)) hg_X8_stuff
set_option maxRecDepth 20000 in
theorem hg_X7_line : GoodIn lw_tbl wsX7_line := goodIn_ca (goodIn_ca (goodIn_ca (goodIn_rx _ [3077, 2078, 1207, 1096, 1100, 1209, 1211, 1214, 3071, 3072, 1001, 3073, 3078, 3079, 3080, 1007, 3081, 1205, 1075, 1208, 1210] rfl (by decide +kernel)) gw_X7) gw_X1) gw_X2
theorem hG_X7_line : GoodIn lw_tbl (wsV RL 39 RX7 yX7_line wsX7_line) := goodIn_app (goodIn_rx _ [3074, 3075, 3076, 1001] rfl (by decide +kernel)) hg_X7_line
set_option maxRecDepth 20000 in
theorem hg_X8_line : GoodIn lw_tbl wsX8_line := goodIn_ca (goodIn_rx _ [6011, 4144, 4166, 4168, 4169, 4203, 6012, 6014, 61, 1010, 6015, 4157, 5190, 5191, 5192, 6016, 6018, 62, 6019, 4160] rfl (by decide +kernel)) gw_X8
theorem hG_X8_line : GoodIn lw_tbl (wsV RL 42 RX8 yX8_line wsX8_line) := goodIn_app (goodIn_rx _ [6008, 6009, 6010, 1010] rfl (by decide +kernel)) hg_X8_line
set_option maxRecDepth 20000 in
theorem hg_X7_lay : GoodIn lw_tbl wsX7_lay := goodIn_ca (goodIn_ca (goodIn_ca (goodIn_rx _ [3085, 2078, 1207, 1096, 1069, 1209, 1211, 1214, 3071, 3072, 1001, 3073] rfl (by decide +kernel)) gw_X7) gw_X1) gw_X2
theorem hG_X7_lay : GoodIn lw_tbl (wsV RL 43 RX7 yX7_lay wsX7_lay) := goodIn_app (goodIn_rx _ [3082, 3083, 3084, 1001] rfl (by decide +kernel)) hg_X7_lay
set_option maxRecDepth 20000 in
theorem hg_X8_lay : GoodIn lw_tbl wsX8_lay := goodIn_ca (goodIn_rx _ [6023, 4144, 4168, 4169, 4203, 6012, 6014, 61, 1010, 6015, 4157, 6004, 6006, 60, 6007, 4154, 5190, 5191, 5192] rfl (by decide +kernel)) gw_X8
theorem hG_X8_lay : GoodIn lw_tbl (wsV RL 47 RX8 yX8_lay wsX8_lay) := goodIn_app (goodIn_rx _ [6020, 6021, 6022, 1010] rfl (by decide +kernel)) hg_X8_lay
set_option maxRecDepth 20000 in
theorem hg_X7_cost : GoodIn lw_tbl wsX7_cost := goodIn_ca (goodIn_ca (goodIn_ca (goodIn_rx _ [3089, 2078, 1207, 1096, 1078, 1209, 1211] rfl (by decide +kernel)) gw_X7) gw_X1) gw_X2
theorem hG_X7_cost : GoodIn lw_tbl (wsV RL 48 RX7 yX7_cost wsX7_cost) := goodIn_app (goodIn_rx _ [3086, 3087, 3088, 1001] rfl (by decide +kernel)) hg_X7_cost
set_option maxRecDepth 20000 in
theorem hg_X8_cost : GoodIn lw_tbl wsX8_cost := goodIn_ca (goodIn_rx _ [6027, 4144, 4157, 4161, 4168, 4169] rfl (by decide +kernel)) gw_X8
theorem hG_X8_cost : GoodIn lw_tbl (wsV RL 51 RX8 yX8_cost wsX8_cost) := goodIn_app (goodIn_rx _ [6024, 6025, 6026, 1010] rfl (by decide +kernel)) hg_X8_cost
set_option maxRecDepth 20000 in
theorem hg_X7_inputs : GoodIn lw_tbl wsX7_inputs := goodIn_ca (goodIn_ca (goodIn_ca (goodIn_rx _ [3093, 2078, 1207, 3094, 2224, 2225, 1003, 2226, 1085, 2227, 2229, 16, 2230, 1092, 1090, 2231, 2232, 1011, 2233] rfl (by decide +kernel)) gw_X7) gw_X1) gw_X2
theorem hG_X7_inputs : GoodIn lw_tbl (wsV RL 52 RX7 yX7_inputs wsX7_inputs) := goodIn_app (goodIn_rx _ [3090, 3091, 3092, 1001] rfl (by decide +kernel)) hg_X7_inputs
set_option maxRecDepth 20000 in
theorem hg_X8_inputs : GoodIn lw_tbl wsX8_inputs := goodIn_ca (goodIn_rx _ [6031, 4144, 6032, 6034, 63, 1010, 6035, 6036, 6038, 64, 6039, 4156, 4165, 4164] rfl (by decide +kernel)) gw_X8
theorem hG_X8_inputs : GoodIn lw_tbl (wsV RL 55 RX8 yX8_inputs wsX8_inputs) := goodIn_app (goodIn_rx _ [6028, 6029, 6030, 1010] rfl (by decide +kernel)) hg_X8_inputs
set_option maxRecDepth 20000 in
theorem hg_X7_input : GoodIn lw_tbl wsX7_input := goodIn_ca (goodIn_ca (goodIn_ca (goodIn_rx _ [3098, 2078, 1207, 1082, 3094, 2224, 2225, 1003, 2226, 1085, 2227, 2229, 16, 2230, 1092, 1090, 2231, 2232, 1011, 2233, 3071, 3072, 1001, 3073, 3099, 3100, 3101, 3102, 1083, 1088] rfl (by decide +kernel)) gw_X7) gw_X1) gw_X2
theorem hG_X7_input : GoodIn lw_tbl (wsV RL 56 RX7 yX7_input wsX7_input) := goodIn_app (goodIn_rx _ [3095, 3096, 3097, 1001] rfl (by decide +kernel)) hg_X7_input
set_option maxRecDepth 20000 in
theorem hg_X8_input : GoodIn lw_tbl wsX8_input := goodIn_ca (goodIn_rx _ [6043, 4144, 6032, 6034, 63, 1010, 6035, 6036, 6038, 64, 6039, 4156, 4165, 4164, 6044, 6046, 65, 6047, 4155, 6048, 6050, 66, 6051, 4163, 4162] rfl (by decide +kernel)) gw_X8
theorem hG_X8_input : GoodIn lw_tbl (wsV RL 59 RX8 yX8_input wsX8_input) := goodIn_app (goodIn_rx _ [6040, 6041, 6042, 1010] rfl (by decide +kernel)) hg_X8_input
set_option maxRecDepth 20000 in
theorem hg_X7_begin : GoodIn lw_tbl wsX7_begin := goodIn_ca (goodIn_ca (goodIn_ca (goodIn_rx _ [3106, 2078, 3107, 3109, 24, 1001, 3110, 1207, 1096, 3094, 2224, 2225, 1003, 2226, 1085, 2227, 2229, 16, 2230, 1092, 1090, 2231, 2232, 1011, 2233, 3071, 3072, 3073, 3111, 3112, 3113, 1007, 3114, 1205, 1081, 1215, 1223, 1225, 1228, 1230, 3115, 3100, 3101, 3102, 1083, 1088] rfl (by decide +kernel)) gw_X7) gw_X1) gw_X2
theorem hG_X7_begin : GoodIn lw_tbl (wsV RL 60 RX7 yX7_begin wsX7_begin) := goodIn_app (goodIn_rx _ [3103, 3104, 3105, 1001] rfl (by decide +kernel)) hg_X7_begin
set_option maxRecDepth 20000 in
theorem hg_X8_begin : GoodIn lw_tbl wsX8_begin := goodIn_ca (goodIn_rx _ [6055, 4144, 4157, 4198, 4199, 4200, 4201, 4202, 4155, 6032, 6034, 63, 1010, 6035, 6036, 6038, 64, 6039, 4156, 4165, 4164, 6048, 6050, 66, 6051, 4163, 4162] rfl (by decide +kernel)) gw_X8
theorem hG_X8_begin : GoodIn lw_tbl (wsV RL 64 RX8 yX8_begin wsX8_begin) := goodIn_app (goodIn_rx _ [6052, 6053, 6054, 1010] rfl (by decide +kernel)) hg_X8_begin
set_option maxRecDepth 20000 in
theorem hg_X7_run : GoodIn lw_tbl wsX7_run := goodIn_ca (goodIn_ca (goodIn_ca (goodIn_rx _ [3119, 3120, 2078, 1229, 3121, 3054, 1011, 3055, 1224, 3122, 3123, 3124, 1007, 3125, 3126, 3127, 3128, 3129, 1223, 1225, 1205, 1098, 1220, 1212, 1228, 3130, 3131, 3132, 3133, 3072, 1001, 3073, 3135, 3079, 3080, 3081, 1075, 1208, 1210, 3136, 3138, 25, 3139, 1111, 1114, 1117, 1102, 1215, 1108, 3140, 3142, 26, 3143, 1120, 3144, 3145, 2232, 2233, 1219, 3146, 3148, 27, 3149, 3150, 3151, 3152, 3153, 3155, 28, 3156, 1230, 1217, 3157, 3159, 29, 3160] rfl (by decide +kernel)) gw_X7) gw_X1) gw_X2
theorem hG_X7_run : GoodIn lw_tbl (wsV RL 65 RX7 yX7_run wsX7_run) := goodIn_app (goodIn_rx _ [3116, 3117, 3118, 1001] rfl (by decide +kernel)) hg_X7_run
set_option maxRecDepth 20000 in
theorem hg_X8_run : GoodIn lw_tbl wsX8_run := goodIn_ca (goodIn_rx _ [6059, 4144, 6060, 4198, 4189, 4190, 4200, 4193, 4201, 4204, 4194, 4188, 4199, 4202, 4191, 4203, 4192, 5190, 5191, 1010, 5192, 6061, 6063, 67, 6064, 4186, 4187, 6065, 6067, 68, 6068, 4160, 4168, 4169, 4166, 4167, 6097, 2232, 1011, 2233, 4157, 6069, 6071, 69, 6072, 4185, 6073, 6075, 70, 6076, 4170, 4171, 4172, 4184, 4181, 4183, 4178, 4180, 4179, 4177, 4176, 4182, 6077, 6079, 71, 6080, 6081, 6083, 72, 6084, 6085, 6087, 73, 6088, 6089, 6091, 74, 6092, 6093, 6095, 75, 6096] rfl (by decide +kernel)) gw_X8
theorem hG_X8_run : GoodIn lw_tbl (wsV RL 68 RX8 yX8_run wsX8_run) := goodIn_app (goodIn_rx _ [6056, 6057, 6058, 1010] rfl (by decide +kernel)) hg_X8_run
set_option maxRecDepth 20000 in
theorem hg_X7_state : GoodIn lw_tbl wsX7_state := goodIn_ca (goodIn_ca (goodIn_rx _ [3164, 2078, 1224, 1227, 1229, 1231] rfl (by decide +kernel)) gw_X7) gw_X1
theorem hG_X7_state : GoodIn lw_tbl (wsV RL 69 RX7 yX7_state wsX7_state) := goodIn_app (goodIn_rx _ [3161, 3162, 3163, 1001] rfl (by decide +kernel)) hg_X7_state
set_option maxRecDepth 20000 in
theorem hg_X8_state : GoodIn lw_tbl wsX8_state := goodIn_ca (goodIn_rx _ [6101, 4144, 4198, 4199, 4200, 4201, 5190, 5191, 1010, 5192] rfl (by decide +kernel)) gw_X8
theorem hG_X8_state : GoodIn lw_tbl (wsV RL 72 RX8 yX8_state wsX8_state) := goodIn_app (goodIn_rx _ [6098, 6099, 6100, 1010] rfl (by decide +kernel)) hg_X8_state
set_option maxRecDepth 20000 in
theorem hg_L_cell : GoodIn lw_tbl xwL_cell := goodIn_ca (goodIn_rx _ [4058, 4059, 4060, 4061, 4062, 1001, 1061] rfl (by decide +kernel)) (goodIn_ca (goodIn_ca (goodIn_ca (goodIn_ca (goodIn_rx _ [4063, 4064, 1017, 2078, 1224, 1207, 1082, 1216, 3071, 3072, 1001, 3073] rfl (by decide +kernel)) gw_X7) gw_X1) gw_X2) gw_xat)
theorem hG_L_cell : GoodIn lw_tbl (va_wsS RL 73 yL_cell xwL_cell) := goodIn_app (goodIn_rx _ [4056, 4057, 1000] rfl (by decide +kernel)) hg_L_cell
set_option maxRecDepth 20000 in
theorem hg_X8_cell : GoodIn lw_tbl wsX8_cell := goodIn_ca (goodIn_rx _ [6105, 4198, 4144, 4202, 6044, 6046, 65, 1010, 6047, 4155] rfl (by decide +kernel)) gw_X8
theorem hG_X8_cell : GoodIn lw_tbl (wsV RL 78 RX8 yX8_cell wsX8_cell) := goodIn_app (goodIn_rx _ [6102, 6103, 6104, 1010] rfl (by decide +kernel)) hg_X8_cell
set_option maxRecDepth 20000 in
theorem hg_L_wrote : GoodIn lw_tbl xwL_wrote := goodIn_ca (goodIn_rx _ [4132, 4059, 4133, 4134, 4135, 1001, 1061] rfl (by decide +kernel)) (goodIn_ca (goodIn_ca (goodIn_ca (goodIn_ca (goodIn_rx _ [4136, 4064, 1017, 2078, 1231, 3121, 3054, 1011, 3055, 1218, 3071, 3072, 1001, 3073] rfl (by decide +kernel)) gw_X7) gw_X1) gw_X2) gw_xat)
theorem hG_L_wrote : GoodIn lw_tbl (va_wsS RL 79 yL_wrote xwL_wrote) := goodIn_app (goodIn_rx _ [4130, 4131, 1000] rfl (by decide +kernel)) hg_L_wrote
set_option maxRecDepth 20000 in
theorem hg_X8_wrote : GoodIn lw_tbl wsX8_wrote := goodIn_ca (goodIn_rx _ [6109, 4198, 4201, 6110, 3054, 1011, 3055, 4144, 4204] rfl (by decide +kernel)) gw_X8
theorem hG_X8_wrote : GoodIn lw_tbl (wsV RL 81 RX8 yX8_wrote wsX8_wrote) := goodIn_app (goodIn_rx _ [6106, 6107, 6108, 1010] rfl (by decide +kernel)) hg_X8_wrote
