section
def lwAt (i : Nat) : Option Cond := match i / 1000 with
  | 0 => (k2_sels lw_privs)[i % 1000]?
  | 1 => tables_1_1[i % 1000]?
  | 2 => tables_1_2[i % 1000]?
  | 3 => tables_1_3[i % 1000]?
  | 4 => tables_1_4[i % 1000]?
  | 5 => tables_1_5[i % 1000]?
  | 6 => tables_1_6[i % 1000]?
  | _ => tables_1_7[i % 1000]?
theorem lwAt_mem {i : Nat} {w : Cond} (h : lwAt i = some w) : w ∈ lw_tbl := by
  unfold lwAt at h
  show w ∈ k2_sels lw_privs ++ (tables_1_1 ++ (tables_1_2 ++ (tables_1_3 ++ (tables_1_4 ++ (tables_1_5 ++ (tables_1_6 ++ tables_1_7))))))
  simp only [List.mem_append]
  split at h <;> have h9 := List.mem_of_getElem? h <;> simp only [h9, true_or, or_true]
theorem goodIn_rx (ws : List Cond) (ps : List Nat) (hp : ws = ps.filterMap lwAt) (h : ws.all goodWord = true) : GoodIn lw_tbl ws := by
  intro w hw
  have h1 := List.all_eq_true.mp h w hw
  rw [hp] at hw
  obtain ⟨i, -, hi⟩ := List.mem_filterMap.mp hw
  exact ⟨lwAt_mem hi, good_of_word h1⟩
set_option maxRecDepth 20000 in
theorem gw_X0 : GoodIn lw_tbl wsX00 := goodIn_rx _ [2064, 2066, 2068, 2070, 2072] rfl (by decide +kernel)
set_option maxRecDepth 20000 in
theorem gw_X1 : GoodIn lw_tbl wsX10 := goodIn_rx _ [1232, 1234, 1236, 1238, 2000, 2002, 2004, 2006, 2008, 2010, 2012, 2014] rfl (by decide +kernel)
set_option maxRecDepth 20000 in
theorem gw_X2 : GoodIn lw_tbl wsX20 := goodIn_rx _ [1121, 1123, 1125, 1127, 1129, 1131, 1133, 1135, 1137, 1139, 1141, 1143, 1145, 1147, 1149, 1151, 1153] rfl (by decide +kernel)
set_option maxRecDepth 20000 in
theorem gw_X3 : GoodIn lw_tbl wsX30 := goodIn_rx _ [1176, 1178, 1180, 1182, 1184, 1186, 1188, 1190, 1192, 1194, 1196] rfl (by decide +kernel)
set_option maxRecDepth 20000 in
theorem gw_X4 : GoodIn lw_tbl wsX40 := goodIn_rx _ [2035, 2037, 2039, 2041, 2043, 2045] rfl (by decide +kernel)
set_option maxRecDepth 20000 in
theorem gw_X5 : GoodIn lw_tbl wsX50 := goodIn_rx _ [1046, 1048, 1050, 1052, 1054, 1056] rfl (by decide +kernel)
set_option maxRecDepth 20000 in
theorem gw_X7 : GoodIn lw_tbl wsX70 := goodIn_rx _ [2085, 2087, 2089, 2091, 2093, 2095, 2097, 2099, 2101, 2103] rfl (by decide +kernel)
set_option maxRecDepth 20000 in
theorem gw_X8 : GoodIn lw_tbl wsX80 := goodIn_rx _ [4213, 4215, 4217, 4219, 4221, 4223, 4225, 4227, 4229, 4231, 4233, 4235, 4237, 4239, 5001, 5003, 5005, 5007, 5009, 5011, 5013, 5015, 5017, 5019, 5021, 5023, 5025, 5027, 5029, 5031, 5033, 5035, 5037, 5039, 5041, 5043, 5045, 5047, 5049, 5051, 5053, 5055, 5057, 5059, 5061, 5063, 5065, 5067, 5069, 5071, 5073, 5075, 5077, 5079, 5081, 5083, 5085, 5087, 5089, 5091, 5093, 5095, 5097, 5099, 5101, 5103, 5105, 5107, 5109] rfl (by decide +kernel)
end
section
set_option maxRecDepth 20000 in
theorem gw_xat : GoodIn lw_tbl ((xnL.filter vx_no).filter goodWord) := goodIn_rx _ [1014, 4086, 4095, 4097, 4100, 4102, 4087, 4088, 1024, 1025, 4089, 4094, 4098, 4118, 4076, 4119, 4078, 4120, 4080, 4090, 4092, 4082, 4114, 4115, 4117, 4082, 4105, 4106, 4107, 4108, 4108, 4109, 4110, 4111, 4111, 4112, 4113, 4114, 4104, 4065, 4073, 4074, 4075, 4077, 4079, 4081, 4085, 4084, 4083] (by decide +kernel) (by decide +kernel)
end
section
set_option maxRecDepth 20000 in
theorem gl_0 : GoodIn lw_tbl wl_0 := goodIn_rx _ [4146, 4145, 5116, 4144, 4147, 4150, 4148, 4149, 4152, 4151, 5133, 5134, 5129, 5131, 39, 1010, 4153, 4172, 4173, 5135, 5156, 5157, 5158, 5159, 5160, 5161, 5162, 5163, 5164, 5165, 5166, 5167, 5168, 5169, 5170, 5171, 5172, 5173, 4155, 4159] rfl gv_0
set_option maxRecDepth 20000 in
theorem gl_1 : GoodIn lw_tbl wl_1 := goodIn_rx _ [4154, 4158, 4175, 4171, 4174, 4170, 5197, 5199, 50, 5229, 5231, 58, 5125, 5127, 38, 5136, 5138, 40, 5144, 5146, 42, 5178, 5180, 46, 5152, 5154, 44, 4177, 4179, 4180, 4181, 4183, 4182, 4176, 4178, 4157, 4186, 4187, 4192, 6081] rfl gv_1
set_option maxRecDepth 20000 in
theorem gl_2 : GoodIn lw_tbl wl_2 := goodIn_rx _ [6083, 72, 6093, 6095, 75, 4184, 4185, 6077, 6079, 71, 6085, 6087, 73, 6089, 6091, 74, 4160, 4161, 4162, 5190, 5191, 5174, 5176, 45, 5148, 5150, 43, 5182, 5184, 47, 5186, 5188, 48, 5193, 5195, 49, 4156, 4164, 4165, 4163] rfl gv_2
set_option maxRecDepth 20000 in
theorem gl_3 : GoodIn lw_tbl wl_3 := goodIn_rx _ [4167, 4166, 4168, 4169, 5225, 5227, 57, 5221, 5223, 56, 5217, 5219, 55, 5213, 5215, 54, 5209, 5211, 53, 5205, 5207, 52, 5201, 5203, 51, 5140, 5142, 41, 5237, 5238, 4203, 4198, 5121, 5123, 37, 5233, 5235, 59, 6004, 6006] rfl gv_3
set_option maxRecDepth 20000 in
theorem gl_4 : GoodIn lw_tbl wl_4 := goodIn_rx _ [60, 6012, 6014, 61, 6016, 6018, 62, 6036, 6038, 64, 6032, 6034, 63, 6044, 6046, 65, 6048, 6050, 66, 4191, 4189, 4188, 6097, 2232, 1011, 2233, 4193, 4194, 4190, 6073, 6075, 70, 6069, 6071, 69, 4197, 4195, 4196, 4202, 4199] rfl gv_4
set_option maxRecDepth 20000 in
theorem gl_5 : GoodIn lw_tbl wl_5 := goodIn_rx _ [4200, 4201, 6065, 6067, 68, 6127, 6129, 78, 6131, 6133, 79, 6135, 6137, 80, 6060, 4204, 6110, 3054, 3055, 6061, 6063, 67, 6119, 6121, 76, 6123, 6125, 77, 6139, 6141, 81, 4207, 4205, 4206, 6151, 6153, 82, 4208, 6167, 6169] rfl gv_5
set_option maxRecDepth 20000 in
theorem gl_6 : GoodIn lw_tbl wl_6 := goodIn_rx _ [83, 4209, 6187, 6189, 86, 6183, 6185, 85, 6179, 6181, 84, 4212, 4211, 4210, 6207, 6209, 87, 6211, 6213, 88, 1031, 1024, 1025, 1059, 1034, 1032, 1038, 1060, 1040, 1061, 1042, 1067, 1071, 1076, 1083, 1088, 1090, 1092, 1099, 1103] rfl gv_6
set_option maxRecDepth 20000 in
theorem gl_7 : GoodIn lw_tbl wl_7 := goodIn_rx _ [1106, 1109, 1112, 1115, 1118, 1161, 1165, 1166, 1167, 1162, 1171, 1164, 1169, 1204, 1208, 1210, 1212, 1215, 1219, 1220, 1223, 1205, 1217, 2023, 2028, 2030, 2032, 2034, 2054, 2058, 2055, 2059, 2057, 2231, 1085, 2227, 2229, 16, 1003, 1098] rfl gv_7
set_option maxRecDepth 20000 in
theorem gl_8 : GoodIn lw_tbl wl_8 := goodIn_rx _ [1230, 3145, 1075, 1225, 1001, 3072, 1081, 1228, 3135, 3079, 3080, 1007, 3115, 3100, 3101, 1120, 3144, 3150, 3151, 3146, 3148, 27, 1111, 1114, 1117, 1102, 1108, 3140, 3142, 26, 3153, 3155, 28, 3157, 3159, 29, 3136, 3138, 25, 3130] rfl gv_8
set_option maxRecDepth 20000 in
theorem gl_9 : GoodIn lw_tbl wl_9 := goodIn_rx _ [3131, 3132, 3126, 3127, 3128, 3063, 3058, 3057, 1013, 1104, 3064, 3065, 1012, 4039, 3178, 3179, 2024, 2026, 1206, 1095, 1226, 1213, 3209, 1221, 3202, 3211, 3183, 3184, 3210, 3207, 3112, 3113, 1036, 1044, 6233, 2142, 2140, 2158, 2157, 2144] rfl gv_9
set_option maxRecDepth 20000 in
theorem gl_10 : GoodIn lw_tbl wl_10 := goodIn_rx _ [2145, 1002, 2149, 2151, 2, 2160, 2153, 2155, 3, 2136, 2138, 1, 2133, 2134, 2126, 2127, 2129, 2131, 0, 2200, 2181, 3023, 3025, 3027, 1168, 1170, 1045, 1039, 1041, 1172, 1043, 1173, 1174, 1068, 1080, 1086, 1089, 2163, 2165, 4] rfl gv_10
set_option maxRecDepth 20000 in
theorem gl_11 : GoodIn lw_tbl wl_11 := goodIn_rx _ [1004, 2173, 2175, 6, 2196, 2198, 11, 2182, 2184, 8, 2215, 2217, 14, 2186, 1072, 2201, 1077, 1084, 1091, 1093, 2177, 2179, 7, 2188, 2190, 9, 2192, 2194, 10, 2223, 2224, 2225, 2219, 2221, 15, 6235, 6236, 3033, 3012, 3014] rfl gv_11
set_option maxRecDepth 20000 in
theorem gl_12 : GoodIn lw_tbl wl_12 := goodIn_rx _ [21, 3029, 3031, 23, 3016, 3018, 22, 3020, 3021, 1113, 3039, 1107, 3037, 3035, 6234, 1101, 1097, 1105, 1110, 1116, 3008, 3010, 20, 3000, 3002, 18, 3004, 3006, 19, 3053, 3056, 1119, 2167, 2203, 2209, 2234, 3041, 1035, 2161, 1063] rfl gv_12
set_option maxRecDepth 20000 in
theorem gl_13 : GoodIn lw_tbl wl_13 := goodIn_rx _ [1065, 3043, 3044, 2236, 2238, 17, 2211, 2213, 13, 2205, 2207, 12, 2169, 2171, 5, 2122, 2123, 2124, 2077, 1175, 2078, 2118, 2119, 2120, 3059, 3060, 3061, 2075, 1037, 1207, 1069, 1073, 1078, 1096, 1100, 1209, 1211, 1214, 1082, 1224] rfl gv_13
set_option maxRecDepth 20000 in
theorem gl_14 : GoodIn lw_tbl wl_14 := goodIn_rx _ [1227, 1229, 1231, 1087, 2110, 2111, 2112, 3071, 3078, 3094, 3099, 3107, 3109, 24, 3111, 3169, 3120, 3121, 1222, 2079, 3122, 3123, 3124, 3177, 3181, 3174, 3175, 3182, 3231, 3233, 32, 2080, 3239, 4000, 4001, 4035, 4036, 4037, 4031, 4033] rfl gv_14
set_option maxRecDepth 20000 in
theorem gl_15 : GoodIn lw_tbl wl_15 := goodIn_rx _ [34, 2081, 2082, 4044, 4046, 35, 3222, 1079, 1074, 2060, 2062, 1070, 3218, 3220, 31, 1009, 3216, 1094, 3217, 2084, 2083, 2033, 2027, 2025, 2029, 2031, 3212, 3213, 3214, 3203, 3204, 3205, 1008, 3198, 3199, 3200, 3194, 3196, 30, 2061] rfl gv_15
set_option maxRecDepth 20000 in
theorem gl_16 : GoodIn lw_tbl wl_16 := goodIn_rx _ [2063, 4015, 4016, 4017, 4011, 4013, 33, 4023, 4024, 4025, 4143, 2048, 1023, 1026, 1027, 1029, 1062, 2076, 1156, 1157, 1158, 1159, 1199, 1200, 1201, 1202, 2018, 2019, 2021, 2049, 2050, 2051, 2052, 3045, 3066, 4026, 3221, 2053, 4018, 3215] rfl gv_16
set_option maxRecDepth 20000 in
theorem gl_17 : GoodIn lw_tbl wl_17 := goodIn_rx _ [3081, 4038, 3133, 3125, 1203, 3185, 3152, 3180, 3149, 3160, 3143, 3114, 3129, 3062, 3139, 3156, 4002, 3102, 1066, 2226, 2230, 2166, 3022, 2191, 3015, 2176, 2185, 1160, 2222, 2199, 3019, 3032, 2121, 3011, 2180, 2195, 3003, 3007, 2208, 2214] rfl gv_17
set_option maxRecDepth 20000 in
theorem gl_18 : GoodIn lw_tbl wl_18 := goodIn_rx _ [2239, 2172, 2218, 3206, 2022, 3201, 2152, 2113, 2156, 2139, 1030, 2128, 2135, 2146, 2125, 2132, 4014, 3110, 4047, 3234, 4034, 3197, 3176, 3073, 5220, 6019, 6134, 6051, 5181, 5196, 5147, 6130, 6138, 6035, 6047, 6142, 6122, 5155, 6182, 6015] rfl gv_18
set_option maxRecDepth 20000 in
theorem gl_19 : GoodIn lw_tbl wl_19 := goodIn_rx _ [5200, 6007, 5139, 6210, 6214, 6186, 6190, 5236, 6096, 6039, 5239, 5224, 5151, 5189, 5185, 5128, 6080, 5232, 5216, 5124, 5204, 5228, 5208, 5212, 5143, 5132, 6068, 5177, 6084, 6064, 6088, 6126, 6154, 5192, 6076, 6072, 6092, 6170] rfl gv_19
theorem gl_ALL : GoodIn lw_tbl wALL := goodIn_app gl_0 (goodIn_app gl_1 (goodIn_app gl_2 (goodIn_app gl_3 (goodIn_app gl_4 (goodIn_app gl_5 (goodIn_app gl_6 (goodIn_app gl_7 (goodIn_app gl_8 (goodIn_app gl_9 (goodIn_app gl_10 (goodIn_app gl_11 (goodIn_app gl_12 (goodIn_app gl_13 (goodIn_app gl_14 (goodIn_app gl_15 (goodIn_app gl_16 (goodIn_app gl_17 (goodIn_app gl_18 (goodIn_app gl_19 (goodIn_app gw_X0 (goodIn_app gw_X1 (goodIn_app gw_X2 (goodIn_app gw_X3 (goodIn_app gw_X4 (goodIn_app gw_X5 (goodIn_app gw_X7 (gw_X8)))))))))))))))))))))))))))
theorem gl_cc {c : Cond} (h : GoodIn lw_tbl [c]) : GoodIn lw_tbl (c :: wALL) := fun w hw => (List.mem_cons.mp hw).elim (fun e => h w (by rw [e]; exact List.mem_cons_self)) (gl_ALL w)
end
section
set_option maxRecDepth 20000 in
theorem hg_X7_init : GoodIn lw_tbl wsX7_init := gl_cc (goodIn_rx _ [1022] rfl (by decide +kernel))
set_option maxRecDepth 20000 in
theorem hg_X8_init : GoodIn lw_tbl wsX8_init := gl_cc (goodIn_rx _ [4142] rfl (by decide +kernel))
set_option maxRecDepth 20000 in
theorem hg_X7_feed : GoodIn lw_tbl wsX7_feed := gl_cc (goodIn_rx _ [2109] rfl (by decide +kernel))
theorem hG_X7_feed : GoodIn lw_tbl (wsV RL 24 RX7 yX7_feed wsX7_feed) := goodIn_app (goodIn_rx _ [2106, 2107, 2108, 1001] rfl (by decide +kernel)) hg_X7_feed
set_option maxRecDepth 20000 in
theorem hg_X8_feed : GoodIn lw_tbl wsX8_feed := gl_cc (goodIn_rx _ [5115] rfl (by decide +kernel))
theorem hG_X8_feed : GoodIn lw_tbl (wsV RL 28 RX8 yX8_feed wsX8_feed) := goodIn_app (goodIn_rx _ [5112, 5113, 5114, 1010] rfl (by decide +kernel)) hg_X8_feed
set_option maxRecDepth 20000 in
theorem hg_X7_programme : GoodIn lw_tbl wsX7_programme := gl_cc (goodIn_rx _ [2117] rfl (by decide +kernel))
theorem hG_X7_programme : GoodIn lw_tbl (wsV RL 29 RX7 yX7_programme wsX7_programme) := goodIn_app (goodIn_rx _ [2114, 2115, 2116, 1001] rfl (by decide +kernel)) hg_X7_programme
set_option maxRecDepth 20000 in
theorem hg_X8_programme : GoodIn lw_tbl wsX8_programme := gl_cc (goodIn_rx _ [5120] rfl (by decide +kernel))
theorem hG_X8_programme : GoodIn lw_tbl (wsV RL 33 RX8 yX8_programme wsX8_programme) := goodIn_app (goodIn_rx _ [5117, 5118, 5119, 1010] rfl (by decide +kernel)) hg_X8_programme
set_option maxRecDepth 20000 in
theorem hg_X7_stuff : GoodIn lw_tbl wsX7_stuff := gl_cc (goodIn_rx _ [3070] rfl (by decide +kernel))
theorem hG_X7_stuff : GoodIn lw_tbl (wsV RL 34 RX7 yX7_stuff wsX7_stuff) := goodIn_app (goodIn_rx _ [3067, 3068, 3069, 1001] rfl (by decide +kernel)) hg_X7_stuff
set_option maxRecDepth 20000 in
theorem hg_X8_stuff : GoodIn lw_tbl wsX8_stuff := gl_cc (goodIn_rx _ [6003] rfl (by decide +kernel))
theorem hG_X8_stuff : GoodIn lw_tbl (wsV RL 38 RX8 yX8_stuff wsX8_stuff) := goodIn_app (goodIn_rx _ [6000, 6001, 6002, 1010] rfl (by decide +kernel)) hg_X8_stuff
set_option maxRecDepth 20000 in
theorem hg_X7_line : GoodIn lw_tbl wsX7_line := gl_cc (goodIn_rx _ [3077] rfl (by decide +kernel))
theorem hG_X7_line : GoodIn lw_tbl (wsV RL 39 RX7 yX7_line wsX7_line) := goodIn_app (goodIn_rx _ [3074, 3075, 3076, 1001] rfl (by decide +kernel)) hg_X7_line
set_option maxRecDepth 20000 in
theorem hg_X8_line : GoodIn lw_tbl wsX8_line := gl_cc (goodIn_rx _ [6011] rfl (by decide +kernel))
theorem hG_X8_line : GoodIn lw_tbl (wsV RL 42 RX8 yX8_line wsX8_line) := goodIn_app (goodIn_rx _ [6008, 6009, 6010, 1010] rfl (by decide +kernel)) hg_X8_line
set_option maxRecDepth 20000 in
theorem hg_X7_lay : GoodIn lw_tbl wsX7_lay := gl_cc (goodIn_rx _ [3085] rfl (by decide +kernel))
theorem hG_X7_lay : GoodIn lw_tbl (wsV RL 43 RX7 yX7_lay wsX7_lay) := goodIn_app (goodIn_rx _ [3082, 3083, 3084, 1001] rfl (by decide +kernel)) hg_X7_lay
set_option maxRecDepth 20000 in
theorem hg_X8_lay : GoodIn lw_tbl wsX8_lay := gl_cc (goodIn_rx _ [6023] rfl (by decide +kernel))
theorem hG_X8_lay : GoodIn lw_tbl (wsV RL 47 RX8 yX8_lay wsX8_lay) := goodIn_app (goodIn_rx _ [6020, 6021, 6022, 1010] rfl (by decide +kernel)) hg_X8_lay
set_option maxRecDepth 20000 in
theorem hg_X7_cost : GoodIn lw_tbl wsX7_cost := gl_cc (goodIn_rx _ [3089] rfl (by decide +kernel))
theorem hG_X7_cost : GoodIn lw_tbl (wsV RL 48 RX7 yX7_cost wsX7_cost) := goodIn_app (goodIn_rx _ [3086, 3087, 3088, 1001] rfl (by decide +kernel)) hg_X7_cost
set_option maxRecDepth 20000 in
theorem hg_X8_cost : GoodIn lw_tbl wsX8_cost := gl_cc (goodIn_rx _ [6027] rfl (by decide +kernel))
theorem hG_X8_cost : GoodIn lw_tbl (wsV RL 51 RX8 yX8_cost wsX8_cost) := goodIn_app (goodIn_rx _ [6024, 6025, 6026, 1010] rfl (by decide +kernel)) hg_X8_cost
set_option maxRecDepth 20000 in
theorem hg_X7_inputs : GoodIn lw_tbl wsX7_inputs := gl_cc (goodIn_rx _ [3093] rfl (by decide +kernel))
theorem hG_X7_inputs : GoodIn lw_tbl (wsV RL 52 RX7 yX7_inputs wsX7_inputs) := goodIn_app (goodIn_rx _ [3090, 3091, 3092, 1001] rfl (by decide +kernel)) hg_X7_inputs
set_option maxRecDepth 20000 in
theorem hg_X8_inputs : GoodIn lw_tbl wsX8_inputs := gl_cc (goodIn_rx _ [6031] rfl (by decide +kernel))
theorem hG_X8_inputs : GoodIn lw_tbl (wsV RL 55 RX8 yX8_inputs wsX8_inputs) := goodIn_app (goodIn_rx _ [6028, 6029, 6030, 1010] rfl (by decide +kernel)) hg_X8_inputs
set_option maxRecDepth 20000 in
theorem hg_X7_input : GoodIn lw_tbl wsX7_input := gl_cc (goodIn_rx _ [3098] rfl (by decide +kernel))
theorem hG_X7_input : GoodIn lw_tbl (wsV RL 56 RX7 yX7_input wsX7_input) := goodIn_app (goodIn_rx _ [3095, 3096, 3097, 1001] rfl (by decide +kernel)) hg_X7_input
set_option maxRecDepth 20000 in
theorem hg_X8_input : GoodIn lw_tbl wsX8_input := gl_cc (goodIn_rx _ [6043] rfl (by decide +kernel))
theorem hG_X8_input : GoodIn lw_tbl (wsV RL 59 RX8 yX8_input wsX8_input) := goodIn_app (goodIn_rx _ [6040, 6041, 6042, 1010] rfl (by decide +kernel)) hg_X8_input
set_option maxRecDepth 20000 in
theorem hg_X7_begin : GoodIn lw_tbl wsX7_begin := gl_cc (goodIn_rx _ [3106] rfl (by decide +kernel))
theorem hG_X7_begin : GoodIn lw_tbl (wsV RL 60 RX7 yX7_begin wsX7_begin) := goodIn_app (goodIn_rx _ [3103, 3104, 3105, 1001] rfl (by decide +kernel)) hg_X7_begin
set_option maxRecDepth 20000 in
theorem hg_X8_begin : GoodIn lw_tbl wsX8_begin := gl_cc (goodIn_rx _ [6055] rfl (by decide +kernel))
theorem hG_X8_begin : GoodIn lw_tbl (wsV RL 64 RX8 yX8_begin wsX8_begin) := goodIn_app (goodIn_rx _ [6052, 6053, 6054, 1010] rfl (by decide +kernel)) hg_X8_begin
set_option maxRecDepth 20000 in
theorem hg_X7_run : GoodIn lw_tbl wsX7_run := gl_cc (goodIn_rx _ [3119] rfl (by decide +kernel))
theorem hG_X7_run : GoodIn lw_tbl (wsV RL 65 RX7 yX7_run wsX7_run) := goodIn_app (goodIn_rx _ [3116, 3117, 3118, 1001] rfl (by decide +kernel)) hg_X7_run
set_option maxRecDepth 20000 in
theorem hg_X8_run : GoodIn lw_tbl wsX8_run := gl_cc (goodIn_rx _ [6059] rfl (by decide +kernel))
theorem hG_X8_run : GoodIn lw_tbl (wsV RL 68 RX8 yX8_run wsX8_run) := goodIn_app (goodIn_rx _ [6056, 6057, 6058, 1010] rfl (by decide +kernel)) hg_X8_run
set_option maxRecDepth 20000 in
theorem hg_X7_state : GoodIn lw_tbl wsX7_state := gl_cc (goodIn_rx _ [3164] rfl (by decide +kernel))
theorem hG_X7_state : GoodIn lw_tbl (wsV RL 69 RX7 yX7_state wsX7_state) := goodIn_app (goodIn_rx _ [3161, 3162, 3163, 1001] rfl (by decide +kernel)) hg_X7_state
set_option maxRecDepth 20000 in
theorem hg_X8_state : GoodIn lw_tbl wsX8_state := gl_cc (goodIn_rx _ [6101] rfl (by decide +kernel))
theorem hG_X8_state : GoodIn lw_tbl (wsV RL 72 RX8 yX8_state wsX8_state) := goodIn_app (goodIn_rx _ [6098, 6099, 6100, 1010] rfl (by decide +kernel)) hg_X8_state
set_option maxRecDepth 20000 in
theorem hg_L_cell : GoodIn lw_tbl xwL_cell := goodIn_ca (goodIn_rx _ [4058, 4059, 4060, 4061, 4062, 1001, 1061] rfl (by decide +kernel)) (goodIn_ca (goodIn_ca (goodIn_ca (goodIn_ca (goodIn_rx _ [4063, 4064, 1017, 2078, 1224, 1207, 1082, 1216, 3071, 3072, 1001, 3073] rfl (by decide +kernel)) gw_X7) gw_X1) gw_X2) gw_xat)
theorem hG_L_cell : GoodIn lw_tbl (va_wsS RL 73 yL_cell xwL_cell) := goodIn_app (goodIn_rx _ [4056, 4057, 1000] rfl (by decide +kernel)) hg_L_cell
set_option maxRecDepth 20000 in
theorem hg_X8_cell : GoodIn lw_tbl wsX8_cell := gl_cc (goodIn_rx _ [6105] rfl (by decide +kernel))
theorem hG_X8_cell : GoodIn lw_tbl (wsV RL 78 RX8 yX8_cell wsX8_cell) := goodIn_app (goodIn_rx _ [6102, 6103, 6104, 1010] rfl (by decide +kernel)) hg_X8_cell
set_option maxRecDepth 20000 in
theorem hg_L_wrote : GoodIn lw_tbl xwL_wrote := goodIn_ca (goodIn_rx _ [4132, 4059, 4133, 4134, 4135, 1001, 1061] rfl (by decide +kernel)) (goodIn_ca (goodIn_ca (goodIn_ca (goodIn_ca (goodIn_rx _ [4136, 4064, 1017, 2078, 1231, 3121, 3054, 1011, 3055, 1218, 3071, 3072, 1001, 3073] rfl (by decide +kernel)) gw_X7) gw_X1) gw_X2) gw_xat)
theorem hG_L_wrote : GoodIn lw_tbl (va_wsS RL 79 yL_wrote xwL_wrote) := goodIn_app (goodIn_rx _ [4130, 4131, 1000] rfl (by decide +kernel)) hg_L_wrote
set_option maxRecDepth 20000 in
theorem hg_X8_wrote : GoodIn lw_tbl wsX8_wrote := gl_cc (goodIn_rx _ [6109] rfl (by decide +kernel))
theorem hG_X8_wrote : GoodIn lw_tbl (wsV RL 81 RX8 yX8_wrote wsX8_wrote) := goodIn_app (goodIn_rx _ [6106, 6107, 6108, 1010] rfl (by decide +kernel)) hg_X8_wrote
end
section
set_option maxRecDepth 20000 in
theorem hg_X7_fresh : GoodIn lw_tbl wsX7_fresh := gl_cc (goodIn_rx _ [3168] rfl (by decide +kernel))
theorem hG_X7_fresh : GoodIn lw_tbl (wsV RL 82 RX7 yX7_fresh wsX7_fresh) := goodIn_app (goodIn_rx _ [3165, 3166, 3167, 1001] rfl (by decide +kernel)) hg_X7_fresh
set_option maxRecDepth 20000 in
theorem hg_X8_fresh : GoodIn lw_tbl wsX8_fresh := gl_cc (goodIn_rx _ [6114] rfl (by decide +kernel))
theorem hG_X8_fresh : GoodIn lw_tbl (wsV RL 86 RX8 yX8_fresh wsX8_fresh) := goodIn_app (goodIn_rx _ [6111, 6112, 6113, 1010] rfl (by decide +kernel)) hg_X8_fresh
set_option maxRecDepth 20000 in
theorem hg_X7_steps : GoodIn lw_tbl wsX7_steps := gl_cc (goodIn_rx _ [3173] rfl (by decide +kernel))
theorem hG_X7_steps : GoodIn lw_tbl (wsV RL 87 RX7 yX7_steps wsX7_steps) := goodIn_app (goodIn_rx _ [3170, 3171, 3172, 1001] rfl (by decide +kernel)) hg_X7_steps
set_option maxRecDepth 20000 in
theorem hg_X8_steps : GoodIn lw_tbl wsX8_steps := gl_cc (goodIn_rx _ [6118] rfl (by decide +kernel))
theorem hG_X8_steps : GoodIn lw_tbl (wsV RL 90 RX8 yX8_steps wsX8_steps) := goodIn_app (goodIn_rx _ [6115, 6116, 6117, 1010] rfl (by decide +kernel)) hg_X8_steps
set_option maxRecDepth 20000 in
theorem hg_X7_falls : GoodIn lw_tbl wsX7_falls := gl_cc (goodIn_rx _ [3189] rfl (by decide +kernel))
theorem hG_X7_falls : GoodIn lw_tbl (wsV RL 91 RX7 yX7_falls wsX7_falls) := goodIn_app (goodIn_rx _ [3186, 3187, 3188, 1001] rfl (by decide +kernel)) hg_X7_falls
set_option maxRecDepth 20000 in
theorem hg_X8_falls : GoodIn lw_tbl wsX8_falls := gl_cc (goodIn_rx _ [6146] rfl (by decide +kernel))
theorem hG_X8_falls : GoodIn lw_tbl (wsV RL 94 RX8 yX8_falls wsX8_falls) := goodIn_app (goodIn_rx _ [6143, 6144, 6145, 1010] rfl (by decide +kernel)) hg_X8_falls
set_option maxRecDepth 20000 in
theorem hg_X7_most : GoodIn lw_tbl wsX7_most := gl_cc (goodIn_rx _ [3193] rfl (by decide +kernel))
theorem hG_X7_most : GoodIn lw_tbl (wsV RL 95 RX7 yX7_most wsX7_most) := goodIn_app (goodIn_rx _ [3190, 3191, 3192, 1001] rfl (by decide +kernel)) hg_X7_most
set_option maxRecDepth 20000 in
theorem hg_X8_most : GoodIn lw_tbl wsX8_most := gl_cc (goodIn_rx _ [6150] rfl (by decide +kernel))
theorem hG_X8_most : GoodIn lw_tbl (wsV RL 98 RX8 yX8_most wsX8_most) := goodIn_app (goodIn_rx _ [6147, 6148, 6149, 1010] rfl (by decide +kernel)) hg_X8_most
set_option maxRecDepth 20000 in
theorem hg_X7_never : GoodIn lw_tbl wsX7_never := gl_cc (goodIn_rx _ [3226] rfl (by decide +kernel))
theorem hG_X7_never : GoodIn lw_tbl (wsV RL 99 RX7 yX7_never wsX7_never) := goodIn_app (goodIn_rx _ [3223, 3224, 3225, 1001] rfl (by decide +kernel)) hg_X7_never
set_option maxRecDepth 20000 in
theorem hg_X8_never : GoodIn lw_tbl wsX8_never := gl_cc (goodIn_rx _ [6158] rfl (by decide +kernel))
theorem hG_X8_never : GoodIn lw_tbl (wsV RL 102 RX8 yX8_never wsX8_never) := goodIn_app (goodIn_rx _ [6155, 6156, 6157, 1010] rfl (by decide +kernel)) hg_X8_never
set_option maxRecDepth 20000 in
theorem hg_X7_first : GoodIn lw_tbl wsX7_first := gl_cc (goodIn_rx _ [3230] rfl (by decide +kernel))
theorem hG_X7_first : GoodIn lw_tbl (wsV RL 103 RX7 yX7_first wsX7_first) := goodIn_app (goodIn_rx _ [3227, 3228, 3229, 1001] rfl (by decide +kernel)) hg_X7_first
set_option maxRecDepth 20000 in
theorem hg_X8_first : GoodIn lw_tbl wsX8_first := gl_cc (goodIn_rx _ [6162] rfl (by decide +kernel))
theorem hG_X8_first : GoodIn lw_tbl (wsV RL 106 RX8 yX8_first wsX8_first) := goodIn_app (goodIn_rx _ [6159, 6160, 6161, 1010] rfl (by decide +kernel)) hg_X8_first
set_option maxRecDepth 20000 in
theorem hg_X7_apart : GoodIn lw_tbl wsX7_apart := gl_cc (goodIn_rx _ [3238] rfl (by decide +kernel))
theorem hG_X7_apart : GoodIn lw_tbl (wsV RL 107 RX7 yX7_apart wsX7_apart) := goodIn_app (goodIn_rx _ [3235, 3236, 3237, 1001] rfl (by decide +kernel)) hg_X7_apart
set_option maxRecDepth 20000 in
theorem hg_X8_apart : GoodIn lw_tbl wsX8_apart := gl_cc (goodIn_rx _ [6166] rfl (by decide +kernel))
theorem hG_X8_apart : GoodIn lw_tbl (wsV RL 110 RX8 yX8_apart wsX8_apart) := goodIn_app (goodIn_rx _ [6163, 6164, 6165, 1010] rfl (by decide +kernel)) hg_X8_apart
set_option maxRecDepth 20000 in
theorem hg_X7_rounds : GoodIn lw_tbl wsX7_rounds := gl_cc (goodIn_rx _ [4006] rfl (by decide +kernel))
theorem hG_X7_rounds : GoodIn lw_tbl (wsV RL 111 RX7 yX7_rounds wsX7_rounds) := goodIn_app (goodIn_rx _ [4003, 4004, 4005, 1001] rfl (by decide +kernel)) hg_X7_rounds
set_option maxRecDepth 20000 in
theorem hg_X8_rounds : GoodIn lw_tbl wsX8_rounds := gl_cc (goodIn_rx _ [6174] rfl (by decide +kernel))
theorem hG_X8_rounds : GoodIn lw_tbl (wsV RL 114 RX8 yX8_rounds wsX8_rounds) := goodIn_app (goodIn_rx _ [6171, 6172, 6173, 1010] rfl (by decide +kernel)) hg_X8_rounds
set_option maxRecDepth 20000 in
theorem hg_X7_lasting : GoodIn lw_tbl wsX7_lasting := gl_cc (goodIn_rx _ [4010] rfl (by decide +kernel))
theorem hG_X7_lasting : GoodIn lw_tbl (wsV RL 115 RX7 yX7_lasting wsX7_lasting) := goodIn_app (goodIn_rx _ [4007, 4008, 4009, 1001] rfl (by decide +kernel)) hg_X7_lasting
set_option maxRecDepth 20000 in
theorem hg_X8_lasting : GoodIn lw_tbl wsX8_lasting := gl_cc (goodIn_rx _ [6178] rfl (by decide +kernel))
theorem hG_X8_lasting : GoodIn lw_tbl (wsV RL 118 RX8 yX8_lasting wsX8_lasting) := goodIn_app (goodIn_rx _ [6175, 6176, 6177, 1010] rfl (by decide +kernel)) hg_X8_lasting
set_option maxRecDepth 20000 in
theorem hg_X7_lasts : GoodIn lw_tbl wsX7_lasts := gl_cc (goodIn_rx _ [4022] rfl (by decide +kernel))
theorem hG_X7_lasts : GoodIn lw_tbl (wsV RL 119 RX7 yX7_lasts wsX7_lasts) := goodIn_app (goodIn_rx _ [4019, 4020, 4021, 1001] rfl (by decide +kernel)) hg_X7_lasts
set_option maxRecDepth 20000 in
theorem hg_X8_lasts : GoodIn lw_tbl wsX8_lasts := gl_cc (goodIn_rx _ [6194] rfl (by decide +kernel))
theorem hG_X8_lasts : GoodIn lw_tbl (wsV RL 123 RX8 yX8_lasts wsX8_lasts) := goodIn_app (goodIn_rx _ [6191, 6192, 6193, 1010] rfl (by decide +kernel)) hg_X8_lasts
set_option maxRecDepth 20000 in
theorem hg_X7_better : GoodIn lw_tbl wsX7_better := gl_cc (goodIn_rx _ [4030] rfl (by decide +kernel))
theorem hG_X7_better : GoodIn lw_tbl (wsV RL 124 RX7 yX7_better wsX7_better) := goodIn_app (goodIn_rx _ [4027, 4028, 4029, 1001] rfl (by decide +kernel)) hg_X7_better
set_option maxRecDepth 20000 in
theorem hg_X8_better : GoodIn lw_tbl wsX8_better := gl_cc (goodIn_rx _ [6198] rfl (by decide +kernel))
theorem hG_X8_better : GoodIn lw_tbl (wsV RL 127 RX8 yX8_better wsX8_better) := goodIn_app (goodIn_rx _ [6195, 6196, 6197, 1010] rfl (by decide +kernel)) hg_X8_better
set_option maxRecDepth 20000 in
theorem hg_X7_same : GoodIn lw_tbl wsX7_same := gl_cc (goodIn_rx _ [4043] rfl (by decide +kernel))
theorem hG_X7_same : GoodIn lw_tbl (wsV RL 128 RX7 yX7_same wsX7_same) := goodIn_app (goodIn_rx _ [4040, 4041, 4042, 1001] rfl (by decide +kernel)) hg_X7_same
set_option maxRecDepth 20000 in
theorem hg_X8_same : GoodIn lw_tbl wsX8_same := gl_cc (goodIn_rx _ [6202] rfl (by decide +kernel))
theorem hG_X8_same : GoodIn lw_tbl (wsV RL 131 RX8 yX8_same wsX8_same) := goodIn_app (goodIn_rx _ [6199, 6200, 6201, 1010] rfl (by decide +kernel)) hg_X8_same
set_option maxRecDepth 20000 in
theorem hg_X7_mark : GoodIn lw_tbl wsX7_mark := gl_cc (goodIn_rx _ [4051] rfl (by decide +kernel))
theorem hG_X7_mark : GoodIn lw_tbl (wsV RL 132 RX7 yX7_mark wsX7_mark) := goodIn_app (goodIn_rx _ [4048, 4049, 4050, 1001] rfl (by decide +kernel)) hg_X7_mark
set_option maxRecDepth 20000 in
theorem hg_X8_mark : GoodIn lw_tbl wsX8_mark := gl_cc (goodIn_rx _ [6206] rfl (by decide +kernel))
theorem hG_X8_mark : GoodIn lw_tbl (wsV RL 136 RX8 yX8_mark wsX8_mark) := goodIn_app (goodIn_rx _ [6203, 6204, 6205, 1010] rfl (by decide +kernel)) hg_X8_mark
set_option maxRecDepth 20000 in
theorem hg_X7_count : GoodIn lw_tbl wsX7_count := gl_cc (goodIn_rx _ [4055] rfl (by decide +kernel))
theorem hG_X7_count : GoodIn lw_tbl (wsV RL 137 RX7 yX7_count wsX7_count) := goodIn_app (goodIn_rx _ [4052, 4053, 4054, 1001] rfl (by decide +kernel)) hg_X7_count
set_option maxRecDepth 20000 in
theorem hg_X8_count : GoodIn lw_tbl wsX8_count := gl_cc (goodIn_rx _ [6218] rfl (by decide +kernel))
theorem hG_X8_count : GoodIn lw_tbl (wsV RL 140 RX8 yX8_count wsX8_count) := goodIn_app (goodIn_rx _ [6215, 6216, 6217, 1010] rfl (by decide +kernel)) hg_X8_count
end
section
-- ===== end of PART A; then your names; then what follows =====
/-! THE CLAIM OUT OF ONE WALK OF THE LAW'S BODY. Your part is whole_start (and what it stands on); all else here is the same for every law, but numbers. -/
def R_law : String := "WornLinesLaw"
def lw_P (b : Addr) (xs : List Int32) (args : Array Value) (s : State) : Prop := args = #[.ref b] ∧ s.IntsAt b xs ∧ xs.length ≤ 3584 ∧ (Jvm.Cond.and given_1 narrow_1).before args s = true
def lw_Q (_ : Array Value) (s : State) (o : Outcome) (t : State) : Prop := o = .returned (some (.int 1)) ∧ Framed s o t [] 601024 7293034
def lw_Z (below : List Frame) (a : Array Value) (s : State) : State → Prop := fun t => ∃ o, t.status = .running ∧ Ended t below o ∧ lw_Q a s o t
/-- the law's own end, with 1 on the stack, nothing written that was there before, its room as the claim has it -/
theorem lw_ret {p : Program} {l : Launch} {e : Env} {s : State} {m : MethodId} {below : List Frame} {meth : Method} {c : Code} {b : Nat} (hx : p.tables.exec = Jvm.exec) (hb : c.code = code) (hr : meth.sig.returnType = ret) (hlocks : meth.locks = false) {pc : Nat} {H : Heap} {ls : Array Slot} (hdg : decode code pc = .ok (.ireturn, 1)) : W p l e room_1 s m #[Value.ref b] below meth c H [] 601024 7293034 (lw_Z below #[Value.ref b] s) (F0 m pc ls [.int 1]) := by
  intro T hT X
  obtain ⟨fs, hret, hrun, hended, hW, hframe⟩ := X.leave (v := some (.int 1)) (hlocks := hlocks) (fun h => by rw [hr] at h; cases h)
  have hmeth' : T.vm.method? m = some meth := X.method'
  refine ⟨T.setFrames fs, ?_, .returned (some (.int 1)), hrun, hended, rfl, ⟨_, rfl⟩, hW, hframe⟩
  jvm_step X.here [X.here.top, hx, hb, hdg, hmeth', hr, ret, narrow_b1]
  (try refine ⟨rfl, ?_⟩); (try refine ⟨rfl, ?_⟩)
  first | (intro acts; rw [hret _ acts rfl rfl rfl]) | rw [hret _ _ rfl rfl rfl]
  exact Steps.refl _
/-- what holds at the law's entry: the machine, the code, the tables' words (any of lw_tbl by 'hts w (by decide +kernel)'), the script of L ints xs at the cell b, what the Statement gives of the start (any of its parts by flat_of_before) -/
def lw_At (p : Program) (s : State) (m : MethodId) (meth : Method) (c : Code) (b L : Nat) (xs : Nat → Int32) : Prop :=
  p.tables.exec = Jvm.exec ∧ c.code = code ∧ meth.sig.returnType = ret ∧ c.maxLocals = 7 ∧ s.vm.findClass R_law = some m.cls ∧ (∀ w ∈ lw_tbl, w.before #[Value.ref b] s = true) ∧ va_X b L xs s s.heap ∧ b < s.heap.size ∧ meth.locks = false ∧ (Jvm.Cond.and given_1 narrow_1).before #[Value.ref b] s = true
end
