def lwAt (i : Nat) : Option Cond := match i / 1000 with
  | 0 => (k2_sels lw_privs)[i % 1000]?
  | 1 => tables_1_1[i % 1000]?
  | 2 => tables_1_2[i % 1000]?
  | 3 => tables_1_3[i % 1000]?
  | 4 => tables_1_4[i % 1000]?
  | 5 => tables_1_5[i % 1000]?
  | 6 => tables_1_6[i % 1000]?
  | _ => tables_1_7[i % 1000]?
theorem lwAt_mem {i : Nat} {w : Cond} (h : lwAt i = some w) : w ∈ lw_tbl := by
  unfold lwAt at h
  show w ∈ k2_sels lw_privs ++ (tables_1_1 ++ (tables_1_2 ++ (tables_1_3 ++ (tables_1_4 ++ (tables_1_5 ++ (tables_1_6 ++ tables_1_7))))))
  simp only [List.mem_append]
  split at h <;> have h9 := List.mem_of_getElem? h <;> simp only [h9, true_or, or_true]
theorem goodIn_rx (ws : List Cond) (ps : List Nat) (hp : ws = ps.filterMap lwAt) (h : ws.all goodWord = true) : GoodIn lw_tbl ws := by
  intro w hw
  have h1 := List.all_eq_true.mp h w hw
  rw [hp] at hw
  obtain ⟨i, -, hi⟩ := List.mem_filterMap.mp hw
  exact ⟨lwAt_mem hi, good_of_word h1⟩
set_option maxRecDepth 20000 in
theorem gw_X0 : GoodIn lw_tbl wsX00 := goodIn_rx _ [2064, 2066, 2068, 2070, 2072] rfl (by decide +kernel)
set_option maxRecDepth 20000 in
theorem gw_X1 : GoodIn lw_tbl wsX10 := goodIn_rx _ [1232, 1234, 1236, 1238, 2000, 2002, 2004, 2006, 2008, 2010, 2012, 2014] rfl (by decide +kernel)
set_option maxRecDepth 20000 in
theorem gw_X2 : GoodIn lw_tbl wsX20 := goodIn_rx _ [1121, 1123, 1125, 1127, 1129, 1131, 1133, 1135, 1137, 1139, 1141, 1143, 1145, 1147, 1149, 1151, 1153] rfl (by decide +kernel)
set_option maxRecDepth 20000 in
theorem gw_X3 : GoodIn lw_tbl wsX30 := goodIn_rx _ [1176, 1178, 1180, 1182, 1184, 1186, 1188, 1190, 1192, 1194, 1196] rfl (by decide +kernel)
set_option maxRecDepth 20000 in
theorem gw_X4 : GoodIn lw_tbl wsX40 := goodIn_rx _ [2035, 2037, 2039, 2041, 2043, 2045] rfl (by decide +kernel)
set_option maxRecDepth 20000 in
theorem gw_X5 : GoodIn lw_tbl wsX50 := goodIn_rx _ [1046, 1048, 1050, 1052, 1054, 1056] rfl (by decide +kernel)
set_option maxRecDepth 20000 in
theorem gw_X7 : GoodIn lw_tbl wsX70 := goodIn_rx _ [2085, 2087, 2089, 2091, 2093, 2095, 2097, 2099, 2101, 2103] rfl (by decide +kernel)
set_option maxRecDepth 20000 in
theorem gw_X8 : GoodIn lw_tbl wsX80 := goodIn_rx _ [4213, 4215, 4217, 4219, 4221, 4223, 4225, 4227, 4229, 4231, 4233, 4235, 4237, 4239, 5001, 5003, 5005, 5007, 5009, 5011, 5013, 5015, 5017, 5019, 5021, 5023, 5025, 5027, 5029, 5031, 5033, 5035, 5037, 5039, 5041, 5043, 5045, 5047, 5049, 5051, 5053, 5055, 5057, 5059, 5061, 5063, 5065, 5067, 5069, 5071, 5073, 5075, 5077, 5079, 5081, 5083, 5085, 5087, 5089, 5091, 5093, 5095, 5097, 5099, 5101, 5103, 5105, 5107, 5109] rfl (by decide +kernel)
